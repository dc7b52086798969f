/-! ===== the cells that stand once both objects are made: kinds, lengths, references ===== -/
def kdL : List Nat := [8, 10, 4, 5, 10, 10, 10, 10, 10, 10, 10, 14, 5, 10, 10, 10, 10, 5, 10, 10, 10, 10, 5, 10, 10, 10, 10, 5, 10, 10, 10, 10, 5, 10, 10, 10, 10, 3, 10, 10, 7, 6, 10, 10, 10, 10, 13, 10, 10, 10, 10, 10, 6, 10, 10, 10, 10, 6, 10, 10, 10, 10, 6, 10, 10, 10, 10, 6, 10, 10, 10, 10, 6, 10, 10, 10, 10, 6, 10, 10, 10, 10, 6, 10, 10, 10, 10, 6, 10, 10, 10, 10, 6, 10, 10, 10, 10, 6, 10, 10, 10, 10, 6, 10, 10, 10, 10, 6, 10, 10, 10, 10, 6, 10, 10, 10, 10, 6, 10, 10, 10, 10, 6, 10, 10, 10, 10, 6, 10, 10, 10, 10, 6, 10, 10, 10, 10, 6, 10, 10, 10, 10, 6, 10, 10, 10, 10, 6, 10, 10, 10, 10, 6, 10, 10, 10, 10, 6, 10, 10, 10, 10, 6, 10, 10, 10, 10, 6, 10, 10, 10, 10, 6, 10, 10, 10, 10, 6, 10, 10, 10, 10, 6, 10, 10, 10, 10, 6, 10, 10, 10, 10, 6, 10, 10, 10, 10, 6, 10, 10, 10, 10, 7, 6, 10, 10, 10, 10, 13, 10, 10, 10, 10, 10, 6, 10, 10, 10, 10, 6, 10, 10, 10, 10, 6, 10, 10, 10, 10, 6, 10, 10, 10, 10, 6, 10, 10, 10, 10, 6, 10, 10, 10, 10, 6, 10, 10, 10, 10, 6, 10, 10, 10, 10, 6, 10, 10, 10, 10, 6, 10, 10, 10, 10, 6, 10, 10, 10, 10, 6, 10, 10, 10, 10, 6, 10, 10, 10, 10, 6, 10, 10, 10, 10, 6, 10, 10, 10, 10, 6, 10, 10, 10, 10, 6, 10, 10, 10, 10, 6, 10, 10, 10, 10, 6, 10, 10, 10, 10, 6, 10, 10, 10, 10, 6, 10, 10, 10, 10, 6, 10, 10, 10, 10, 6, 10, 10, 10, 10, 6, 10, 10, 10, 10, 6, 10, 10, 10, 10, 6, 10, 10, 10, 10, 6, 10, 10, 10, 10, 6, 10, 10, 10, 10, 6, 10, 10, 10, 10, 6, 10, 10, 10, 10, 6, 10, 10, 10, 10, 2, 1, 10, 0, 10, 10, 9, 10, 10, 10, 10, 10, 10, 11, 12, 10, 10, 10, 10, 10, 10]
def lnL : List Nat := [0, 300, 0, 0, 300, 3, 3, 96, 301, 301, 301, 4, 0, 300, 3, 3, 96, 0, 300, 3, 3, 96, 0, 300, 3, 3, 96, 0, 300, 3, 3, 96, 0, 300, 3, 3, 96, 0, 8, 300, 0, 0, 7, 7, 7, 40, 30, 8, 8, 8, 8, 8, 0, 7, 7, 7, 40, 0, 7, 7, 7, 40, 0, 7, 7, 7, 40, 0, 7, 7, 7, 40, 0, 7, 7, 7, 40, 0, 7, 7, 7, 40, 0, 7, 7, 7, 40, 0, 7, 7, 7, 40, 0, 7, 7, 7, 40, 0, 7, 7, 7, 40, 0, 7, 7, 7, 40, 0, 7, 7, 7, 40, 0, 7, 7, 7, 40, 0, 7, 7, 7, 40, 0, 7, 7, 7, 40, 0, 7, 7, 7, 40, 0, 7, 7, 7, 40, 0, 7, 7, 7, 40, 0, 7, 7, 7, 40, 0, 7, 7, 7, 40, 0, 7, 7, 7, 40, 0, 7, 7, 7, 40, 0, 7, 7, 7, 40, 0, 7, 7, 7, 40, 0, 7, 7, 7, 40, 0, 7, 7, 7, 40, 0, 7, 7, 7, 40, 0, 7, 7, 7, 40, 0, 7, 7, 7, 40, 0, 7, 7, 7, 40, 0, 0, 7, 7, 7, 40, 30, 8, 8, 8, 8, 8, 0, 7, 7, 7, 40, 0, 7, 7, 7, 40, 0, 7, 7, 7, 40, 0, 7, 7, 7, 40, 0, 7, 7, 7, 40, 0, 7, 7, 7, 40, 0, 7, 7, 7, 40, 0, 7, 7, 7, 40, 0, 7, 7, 7, 40, 0, 7, 7, 7, 40, 0, 7, 7, 7, 40, 0, 7, 7, 7, 40, 0, 7, 7, 7, 40, 0, 7, 7, 7, 40, 0, 7, 7, 7, 40, 0, 7, 7, 7, 40, 0, 7, 7, 7, 40, 0, 7, 7, 7, 40, 0, 7, 7, 7, 40, 0, 7, 7, 7, 40, 0, 7, 7, 7, 40, 0, 7, 7, 7, 40, 0, 7, 7, 7, 40, 0, 7, 7, 7, 40, 0, 7, 7, 7, 40, 0, 7, 7, 7, 40, 0, 7, 7, 7, 40, 0, 7, 7, 7, 40, 0, 7, 7, 7, 40, 0, 7, 7, 7, 40, 0, 7, 7, 7, 40, 0, 0, 7, 0, 7, 7, 0, 2308, 2308, 2820, 300, 160, 8, 330, 330, 68, 20, 7, 7, 7, 7]
def kd0 (t : Nat) : Nat := kdL.getD t 99
def ln0 (t : Nat) : Nat := lnL.getD t 0
def rfk (kd t k : Nat) : Option Nat := match kd with
  | 0 => (match k with
    | 1 => some (t + 1)
    | 2 => some (t + 2)
    | _ => none)
  | 1 => (match k with
    | 0 => some (t + 1)
    | _ => none)
  | 3 => (match k with
    | 0 => some (t + 1)
    | 1 => some (t + 2)
    | _ => none)
  | 4 => (match k with
    | 0 => some (t + 1)
    | 3 => some (t + 6)
    | 4 => some (t + 7)
    | 5 => some (t + 8)
    | _ => none)
  | 5 => (match k with
    | 0 => some (t + 1)
    | 2 => some (t + 2)
    | 3 => some (t + 3)
    | 4 => some (t + 4)
    | _ => none)
  | 6 => (match k with
    | 0 => some (t + 1)
    | 1 => some (t + 2)
    | 2 => some (t + 3)
    | 3 => some (t + 4)
    | _ => none)
  | 7 => (match k with
    | 0 => some (t + 1)
    | 1 => some (t + 6)
    | 6 => some (t + 7)
    | 7 => some (t + 8)
    | 8 => some (t + 9)
    | 10 => some (t + 10)
    | 11 => some (t + 11)
    | _ => none)
  | 8 => (match k with
    | 0 => some (t + 1)
    | 3 => some (t + 2)
    | 4 => some (t + 11)
    | 5 => some (t + 32)
    | 6 => some (t + 37)
    | 7 => some (t + 40)
    | 8 => some (t + 202)
    | 9 => some (t + 364)
    | 10 => some (t + 369)
    | 11 => some (t + 370)
    | 12 => some (t + 372)
    | _ => none)
  | 9 => (match k with
    | 0 => some (t + 1)
    | 1 => some (t + 2)
    | 2 => some (t + 3)
    | 3 => some (t + 4)
    | 15 => some (t + 5)
    | 21 => some (t + 6)
    | 22 => some (t + 7)
    | 23 => some (t + 8)
    | 24 => some (t + 9)
    | 29 => some (t + 10)
    | 32 => some (t + 11)
    | 33 => some (t + 12)
    | 34 => some (t + 13)
    | 35 => some (t + 14)
    | _ => none)
  | 13 => if k < 30 then some (t + 6 + 5 * k) else none
  | 14 => if k < 4 then some (t + 1 + 5 * k) else none
  | _ => none
def rf0 (t k : Nat) : Option Nat := rfk (kd0 t) t k
abbrev E0 : mE := (390, kd0, ln0, rf0)
theorem kdL_len : kdL.length = 390 := by decide +kernel
theorem kd0_out {t : Nat} (h : 390 ≤ t) : kd0 t = 99 := by
  unfold kd0
  rw [List.getD_eq_getElem?_getD, List.getElem?_eq_none (by rw [kdL_len]; exact h)]
  rfl
def kL0 : List Nat := [372]
theorem kL0_all : ∀ t, t < 390 → kd0 t = 0 → t ∈ kL0 := by decide +kernel
theorem kL0_in {t : Nat} (h : kd0 t = 0) : t ∈ kL0 := by
  by_cases ht : t < 390
  · exact kL0_all t ht h
  · exact absurd h (by rw [kd0_out (by omega)]; decide)
theorem lay0_1_all : ∀ t ∈ kL0, (kd0 (t + 1) = 10 ∧ ln0 (t + 1) = 7) := by decide +kernel
theorem lay0_1 {t : Nat} (h : kd0 t = 0) : (kd0 (t + 1) = 10 ∧ ln0 (t + 1) = 7) := lay0_1_all t (kL0_in h)
theorem lay0_2_all : ∀ t ∈ kL0, (kd0 (t + 2) = 10 ∧ ln0 (t + 2) = 7) := by decide +kernel
theorem lay0_2 {t : Nat} (h : kd0 t = 0) : (kd0 (t + 2) = 10 ∧ ln0 (t + 2) = 7) := lay0_2_all t (kL0_in h)
theorem lr0_best {t : Nat} {i : Int32} {j : Int64} (h : kd0 t = 0) : fv (mty 0 1) i j (rf0 t 1) = .ref (t + 1) := by
  unfold rf0
  rw [h]
  rfl
theorem lk0_best {t : Nat} (h : kd0 t = 0) : kd0 (t + 1) = 10 := (lay0_1 h).1
theorem ll0_best {t : Nat} (h : kd0 t = 0) : ln0 (t + 1) = 7 := (lay0_1 h).2
theorem lr0_with {t : Nat} {i : Int32} {j : Int64} (h : kd0 t = 0) : fv (mty 0 2) i j (rf0 t 2) = .ref (t + 2) := by
  unfold rf0
  rw [h]
  rfl
theorem lk0_with {t : Nat} (h : kd0 t = 0) : kd0 (t + 2) = 10 := (lay0_2 h).1
theorem ll0_with {t : Nat} (h : kd0 t = 0) : ln0 (t + 2) = 7 := (lay0_2 h).2
def kL1 : List Nat := [370]
theorem kL1_all : ∀ t, t < 390 → kd0 t = 1 → t ∈ kL1 := by decide +kernel
theorem kL1_in {t : Nat} (h : kd0 t = 1) : t ∈ kL1 := by
  by_cases ht : t < 390
  · exact kL1_all t ht h
  · exact absurd h (by rw [kd0_out (by omega)]; decide)
theorem lay1_1_all : ∀ t ∈ kL1, (kd0 (t + 1) = 10 ∧ ln0 (t + 1) = 7) := by decide +kernel
theorem lay1_1 {t : Nat} (h : kd0 t = 1) : (kd0 (t + 1) = 10 ∧ ln0 (t + 1) = 7) := lay1_1_all t (kL1_in h)
theorem lr1_dayOf {t : Nat} {i : Int32} {j : Int64} (h : kd0 t = 1) : fv (mty 1 0) i j (rf0 t 0) = .ref (t + 1) := by
  unfold rf0
  rw [h]
  rfl
theorem lk1_dayOf {t : Nat} (h : kd0 t = 1) : kd0 (t + 1) = 10 := (lay1_1 h).1
theorem ll1_dayOf {t : Nat} (h : kd0 t = 1) : ln0 (t + 1) = 7 := (lay1_1 h).2
def kL3 : List Nat := [37]
theorem kL3_all : ∀ t, t < 390 → kd0 t = 3 → t ∈ kL3 := by decide +kernel
theorem kL3_in {t : Nat} (h : kd0 t = 3) : t ∈ kL3 := by
  by_cases ht : t < 390
  · exact kL3_all t ht h
  · exact absurd h (by rw [kd0_out (by omega)]; decide)
theorem lay3_1_all : ∀ t ∈ kL3, (kd0 (t + 1) = 10 ∧ ln0 (t + 1) = 8) := by decide +kernel
theorem lay3_1 {t : Nat} (h : kd0 t = 3) : (kd0 (t + 1) = 10 ∧ ln0 (t + 1) = 8) := lay3_1_all t (kL3_in h)
theorem lay3_2_all : ∀ t ∈ kL3, (kd0 (t + 2) = 10 ∧ ln0 (t + 2) = 300) := by decide +kernel
theorem lay3_2 {t : Nat} (h : kd0 t = 3) : (kd0 (t + 2) = 10 ∧ ln0 (t + 2) = 300) := lay3_2_all t (kL3_in h)
theorem lr3_names {t : Nat} {i : Int32} {j : Int64} (h : kd0 t = 3) : fv (mty 3 0) i j (rf0 t 0) = .ref (t + 1) := by
  unfold rf0
  rw [h]
  rfl
theorem lk3_names {t : Nat} (h : kd0 t = 3) : kd0 (t + 1) = 10 := (lay3_1 h).1
theorem ll3_names {t : Nat} (h : kd0 t = 3) : ln0 (t + 1) = 8 := (lay3_1 h).2
theorem lr3_stack {t : Nat} {i : Int32} {j : Int64} (h : kd0 t = 3) : fv (mty 3 1) i j (rf0 t 1) = .ref (t + 2) := by
  unfold rf0
  rw [h]
  rfl
theorem lk3_stack {t : Nat} (h : kd0 t = 3) : kd0 (t + 2) = 10 := (lay3_2 h).1
theorem ll3_stack {t : Nat} (h : kd0 t = 3) : ln0 (t + 2) = 300 := (lay3_2 h).2
def kL4 : List Nat := [2]
theorem kL4_all : ∀ t, t < 390 → kd0 t = 4 → t ∈ kL4 := by decide +kernel
theorem kL4_in {t : Nat} (h : kd0 t = 4) : t ∈ kL4 := by
  by_cases ht : t < 390
  · exact kL4_all t ht h
  · exact absurd h (by rw [kd0_out (by omega)]; decide)
theorem lay4_1_all : ∀ t ∈ kL4, (kd0 (t + 1) = 5 ∧ ln0 (t + 1) = 0) := by decide +kernel
theorem lay4_1 {t : Nat} (h : kd0 t = 4) : (kd0 (t + 1) = 5 ∧ ln0 (t + 1) = 0) := lay4_1_all t (kL4_in h)
theorem lay4_6_all : ∀ t ∈ kL4, (kd0 (t + 6) = 10 ∧ ln0 (t + 6) = 301) := by decide +kernel
theorem lay4_6 {t : Nat} (h : kd0 t = 4) : (kd0 (t + 6) = 10 ∧ ln0 (t + 6) = 301) := lay4_6_all t (kL4_in h)
theorem lay4_7_all : ∀ t ∈ kL4, (kd0 (t + 7) = 10 ∧ ln0 (t + 7) = 301) := by decide +kernel
theorem lay4_7 {t : Nat} (h : kd0 t = 4) : (kd0 (t + 7) = 10 ∧ ln0 (t + 7) = 301) := lay4_7_all t (kL4_in h)
theorem lay4_8_all : ∀ t ∈ kL4, (kd0 (t + 8) = 10 ∧ ln0 (t + 8) = 301) := by decide +kernel
theorem lay4_8 {t : Nat} (h : kd0 t = 4) : (kd0 (t + 8) = 10 ∧ ln0 (t + 8) = 301) := lay4_8_all t (kL4_in h)
theorem lr4_draft {t : Nat} {i : Int32} {j : Int64} (h : kd0 t = 4) : fv (mty 4 0) i j (rf0 t 0) = .ref (t + 1) := by
  unfold rf0
  rw [h]
  rfl
theorem lk4_draft {t : Nat} (h : kd0 t = 4) : kd0 (t + 1) = 5 := (lay4_1 h).1
theorem ll4_draft {t : Nat} (h : kd0 t = 4) : ln0 (t + 1) = 0 := (lay4_1 h).2
theorem lr4_kinds {t : Nat} {i : Int32} {j : Int64} (h : kd0 t = 4) : fv (mty 4 3) i j (rf0 t 3) = .ref (t + 6) := by
  unfold rf0
  rw [h]
  rfl
theorem lk4_kinds {t : Nat} (h : kd0 t = 4) : kd0 (t + 6) = 10 := (lay4_6 h).1
theorem ll4_kinds {t : Nat} (h : kd0 t = 4) : ln0 (t + 6) = 301 := (lay4_6 h).2
theorem lr4_places {t : Nat} {i : Int32} {j : Int64} (h : kd0 t = 4) : fv (mty 4 4) i j (rf0 t 4) = .ref (t + 7) := by
  unfold rf0
  rw [h]
  rfl
theorem lk4_places {t : Nat} (h : kd0 t = 4) : kd0 (t + 7) = 10 := (lay4_7 h).1
theorem ll4_places {t : Nat} (h : kd0 t = 4) : ln0 (t + 7) = 301 := (lay4_7 h).2
theorem lr4_values {t : Nat} {i : Int32} {j : Int64} (h : kd0 t = 4) : fv (mty 4 5) i j (rf0 t 5) = .ref (t + 8) := by
  unfold rf0
  rw [h]
  rfl
theorem lk4_values {t : Nat} (h : kd0 t = 4) : kd0 (t + 8) = 10 := (lay4_8 h).1
theorem ll4_values {t : Nat} (h : kd0 t = 4) : ln0 (t + 8) = 301 := (lay4_8 h).2
def kL5 : List Nat := [3, 12, 17, 22, 27, 32]
theorem kL5_all : ∀ t, t < 390 → kd0 t = 5 → t ∈ kL5 := by decide +kernel
theorem kL5_in {t : Nat} (h : kd0 t = 5) : t ∈ kL5 := by
  by_cases ht : t < 390
  · exact kL5_all t ht h
  · exact absurd h (by rw [kd0_out (by omega)]; decide)
theorem lay5_1_all : ∀ t ∈ kL5, (kd0 (t + 1) = 10 ∧ ln0 (t + 1) = 300) := by decide +kernel
theorem lay5_1 {t : Nat} (h : kd0 t = 5) : (kd0 (t + 1) = 10 ∧ ln0 (t + 1) = 300) := lay5_1_all t (kL5_in h)
theorem lay5_2_all : ∀ t ∈ kL5, (kd0 (t + 2) = 10 ∧ ln0 (t + 2) = 3) := by decide +kernel
theorem lay5_2 {t : Nat} (h : kd0 t = 5) : (kd0 (t + 2) = 10 ∧ ln0 (t + 2) = 3) := lay5_2_all t (kL5_in h)
theorem lay5_3_all : ∀ t ∈ kL5, (kd0 (t + 3) = 10 ∧ ln0 (t + 3) = 3) := by decide +kernel
theorem lay5_3 {t : Nat} (h : kd0 t = 5) : (kd0 (t + 3) = 10 ∧ ln0 (t + 3) = 3) := lay5_3_all t (kL5_in h)
theorem lay5_4_all : ∀ t ∈ kL5, (kd0 (t + 4) = 10 ∧ ln0 (t + 4) = 96) := by decide +kernel
theorem lay5_4 {t : Nat} (h : kd0 t = 5) : (kd0 (t + 4) = 10 ∧ ln0 (t + 4) = 96) := lay5_4_all t (kL5_in h)
theorem lr5_code {t : Nat} {i : Int32} {j : Int64} (h : kd0 t = 5) : fv (mty 5 0) i j (rf0 t 0) = .ref (t + 1) := by
  unfold rf0
  rw [h]
  rfl
theorem lk5_code {t : Nat} (h : kd0 t = 5) : kd0 (t + 1) = 10 := (lay5_1 h).1
theorem ll5_code {t : Nat} (h : kd0 t = 5) : ln0 (t + 1) = 300 := (lay5_1 h).2
theorem lr5_lawFrom {t : Nat} {i : Int32} {j : Int64} (h : kd0 t = 5) : fv (mty 5 2) i j (rf0 t 2) = .ref (t + 2) := by
  unfold rf0
  rw [h]
  rfl
theorem lk5_lawFrom {t : Nat} (h : kd0 t = 5) : kd0 (t + 2) = 10 := (lay5_2 h).1
theorem ll5_lawFrom {t : Nat} (h : kd0 t = 5) : ln0 (t + 2) = 3 := (lay5_2 h).2
theorem lr5_lawTo {t : Nat} {i : Int32} {j : Int64} (h : kd0 t = 5) : fv (mty 5 3) i j (rf0 t 3) = .ref (t + 3) := by
  unfold rf0
  rw [h]
  rfl
theorem lk5_lawTo {t : Nat} (h : kd0 t = 5) : kd0 (t + 3) = 10 := (lay5_3 h).1
theorem ll5_lawTo {t : Nat} (h : kd0 t = 5) : ln0 (t + 3) = 3 := (lay5_3 h).2
theorem lr5_rows {t : Nat} {i : Int32} {j : Int64} (h : kd0 t = 5) : fv (mty 5 4) i j (rf0 t 4) = .ref (t + 4) := by
  unfold rf0
  rw [h]
  rfl
theorem lk5_rows {t : Nat} (h : kd0 t = 5) : kd0 (t + 4) = 10 := (lay5_4 h).1
theorem ll5_rows {t : Nat} (h : kd0 t = 5) : ln0 (t + 4) = 96 := (lay5_4 h).2
def kL6 : List Nat := [41, 52, 57, 62, 67, 72, 77, 82, 87, 92, 97, 102, 107, 112, 117, 122, 127, 132, 137, 142, 147, 152, 157, 162, 167, 172, 177, 182, 187, 192, 197, 203, 214, 219, 224, 229, 234, 239, 244, 249, 254, 259, 264, 269, 274, 279, 284, 289, 294, 299, 304, 309, 314, 319, 324, 329, 334, 339, 344, 349, 354, 359, 364]
theorem kL6_all : ∀ t, t < 390 → kd0 t = 6 → t ∈ kL6 := by decide +kernel
theorem kL6_in {t : Nat} (h : kd0 t = 6) : t ∈ kL6 := by
  by_cases ht : t < 390
  · exact kL6_all t ht h
  · exact absurd h (by rw [kd0_out (by omega)]; decide)
theorem lay6_1_all : ∀ t ∈ kL6, (kd0 (t + 1) = 10 ∧ ln0 (t + 1) = 7) := by decide +kernel
theorem lay6_1 {t : Nat} (h : kd0 t = 6) : (kd0 (t + 1) = 10 ∧ ln0 (t + 1) = 7) := lay6_1_all t (kL6_in h)
theorem lay6_2_all : ∀ t ∈ kL6, (kd0 (t + 2) = 10 ∧ ln0 (t + 2) = 7) := by decide +kernel
theorem lay6_2 {t : Nat} (h : kd0 t = 6) : (kd0 (t + 2) = 10 ∧ ln0 (t + 2) = 7) := lay6_2_all t (kL6_in h)
theorem lay6_3_all : ∀ t ∈ kL6, (kd0 (t + 3) = 10 ∧ ln0 (t + 3) = 7) := by decide +kernel
theorem lay6_3 {t : Nat} (h : kd0 t = 6) : (kd0 (t + 3) = 10 ∧ ln0 (t + 3) = 7) := lay6_3_all t (kL6_in h)
theorem lay6_4_all : ∀ t ∈ kL6, (kd0 (t + 4) = 10 ∧ ln0 (t + 4) = 40) := by decide +kernel
theorem lay6_4 {t : Nat} (h : kd0 t = 6) : (kd0 (t + 4) = 10 ∧ ln0 (t + 4) = 40) := lay6_4_all t (kL6_in h)
theorem lr6_shut {t : Nat} {i : Int32} {j : Int64} (h : kd0 t = 6) : fv (mty 6 0) i j (rf0 t 0) = .ref (t + 1) := by
  unfold rf0
  rw [h]
  rfl
theorem lk6_shut {t : Nat} (h : kd0 t = 6) : kd0 (t + 1) = 10 := (lay6_1 h).1
theorem ll6_shut {t : Nat} (h : kd0 t = 6) : ln0 (t + 1) = 7 := (lay6_1 h).2
theorem lr6_purse {t : Nat} {i : Int32} {j : Int64} (h : kd0 t = 6) : fv (mty 6 1) i j (rf0 t 1) = .ref (t + 2) := by
  unfold rf0
  rw [h]
  rfl
theorem lk6_purse {t : Nat} (h : kd0 t = 6) : kd0 (t + 2) = 10 := (lay6_2 h).1
theorem ll6_purse {t : Nat} (h : kd0 t = 6) : ln0 (t + 2) = 7 := (lay6_2 h).2
theorem lr6_friends {t : Nat} {i : Int32} {j : Int64} (h : kd0 t = 6) : fv (mty 6 2) i j (rf0 t 2) = .ref (t + 3) := by
  unfold rf0
  rw [h]
  rfl
theorem lk6_friends {t : Nat} (h : kd0 t = 6) : kd0 (t + 3) = 10 := (lay6_3 h).1
theorem ll6_friends {t : Nat} (h : kd0 t = 6) : ln0 (t + 3) = 7 := (lay6_3 h).2
theorem lr6_knocked {t : Nat} {i : Int32} {j : Int64} (h : kd0 t = 6) : fv (mty 6 3) i j (rf0 t 3) = .ref (t + 4) := by
  unfold rf0
  rw [h]
  rfl
theorem lk6_knocked {t : Nat} (h : kd0 t = 6) : kd0 (t + 4) = 10 := (lay6_4 h).1
theorem ll6_knocked {t : Nat} (h : kd0 t = 6) : ln0 (t + 4) = 40 := (lay6_4 h).2
def kL7 : List Nat := [40, 202]
theorem kL7_all : ∀ t, t < 390 → kd0 t = 7 → t ∈ kL7 := by decide +kernel
theorem kL7_in {t : Nat} (h : kd0 t = 7) : t ∈ kL7 := by
  by_cases ht : t < 390
  · exact kL7_all t ht h
  · exact absurd h (by rw [kd0_out (by omega)]; decide)
theorem lay7_1_all : ∀ t ∈ kL7, (kd0 (t + 1) = 6 ∧ ln0 (t + 1) = 0) := by decide +kernel
theorem lay7_1 {t : Nat} (h : kd0 t = 7) : (kd0 (t + 1) = 6 ∧ ln0 (t + 1) = 0) := lay7_1_all t (kL7_in h)
theorem lay7_6_all : ∀ t ∈ kL7, (kd0 (t + 6) = 13 ∧ ln0 (t + 6) = 30) := by decide +kernel
theorem lay7_6 {t : Nat} (h : kd0 t = 7) : (kd0 (t + 6) = 13 ∧ ln0 (t + 6) = 30) := lay7_6_all t (kL7_in h)
theorem lay7_7_all : ∀ t ∈ kL7, (kd0 (t + 7) = 10 ∧ ln0 (t + 7) = 8) := by decide +kernel
theorem lay7_7 {t : Nat} (h : kd0 t = 7) : (kd0 (t + 7) = 10 ∧ ln0 (t + 7) = 8) := lay7_7_all t (kL7_in h)
theorem lay7_8_all : ∀ t ∈ kL7, (kd0 (t + 8) = 10 ∧ ln0 (t + 8) = 8) := by decide +kernel
theorem lay7_8 {t : Nat} (h : kd0 t = 7) : (kd0 (t + 8) = 10 ∧ ln0 (t + 8) = 8) := lay7_8_all t (kL7_in h)
theorem lay7_9_all : ∀ t ∈ kL7, (kd0 (t + 9) = 10 ∧ ln0 (t + 9) = 8) := by decide +kernel
theorem lay7_9 {t : Nat} (h : kd0 t = 7) : (kd0 (t + 9) = 10 ∧ ln0 (t + 9) = 8) := lay7_9_all t (kL7_in h)
theorem lay7_10_all : ∀ t ∈ kL7, (kd0 (t + 10) = 10 ∧ ln0 (t + 10) = 8) := by decide +kernel
theorem lay7_10 {t : Nat} (h : kd0 t = 7) : (kd0 (t + 10) = 10 ∧ ln0 (t + 10) = 8) := lay7_10_all t (kL7_in h)
theorem lay7_11_all : ∀ t ∈ kL7, (kd0 (t + 11) = 10 ∧ ln0 (t + 11) = 8) := by decide +kernel
theorem lay7_11 {t : Nat} (h : kd0 t = 7) : (kd0 (t + 11) = 10 ∧ ln0 (t + 11) = 8) := lay7_11_all t (kL7_in h)
theorem lr7_town {t : Nat} {i : Int32} {j : Int64} (h : kd0 t = 7) : fv (mty 7 0) i j (rf0 t 0) = .ref (t + 1) := by
  unfold rf0
  rw [h]
  rfl
theorem lk7_town {t : Nat} (h : kd0 t = 7) : kd0 (t + 1) = 6 := (lay7_1 h).1
theorem ll7_town {t : Nat} (h : kd0 t = 7) : ln0 (t + 1) = 0 := (lay7_1 h).2
theorem lr7_steps {t : Nat} {i : Int32} {j : Int64} (h : kd0 t = 7) : fv (mty 7 1) i j (rf0 t 1) = .ref (t + 6) := by
  unfold rf0
  rw [h]
  rfl
theorem lk7_steps {t : Nat} (h : kd0 t = 7) : kd0 (t + 6) = 13 := (lay7_6 h).1
theorem ll7_steps {t : Nat} (h : kd0 t = 7) : ln0 (t + 6) = 30 := (lay7_6 h).2
theorem lr7_seenHouse {t : Nat} {i : Int32} {j : Int64} (h : kd0 t = 7) : fv (mty 7 6) i j (rf0 t 6) = .ref (t + 7) := by
  unfold rf0
  rw [h]
  rfl
theorem lk7_seenHouse {t : Nat} (h : kd0 t = 7) : kd0 (t + 7) = 10 := (lay7_7 h).1
theorem ll7_seenHouse {t : Nat} (h : kd0 t = 7) : ln0 (t + 7) = 8 := (lay7_7 h).2
theorem lr7_seenDate {t : Nat} {i : Int32} {j : Int64} (h : kd0 t = 7) : fv (mty 7 7) i j (rf0 t 7) = .ref (t + 8) := by
  unfold rf0
  rw [h]
  rfl
theorem lk7_seenDate {t : Nat} (h : kd0 t = 7) : kd0 (t + 8) = 10 := (lay7_8 h).1
theorem ll7_seenDate {t : Nat} (h : kd0 t = 7) : ln0 (t + 8) = 8 := (lay7_8 h).2
theorem lr7_seenShut {t : Nat} {i : Int32} {j : Int64} (h : kd0 t = 7) : fv (mty 7 8) i j (rf0 t 8) = .ref (t + 9) := by
  unfold rf0
  rw [h]
  rfl
theorem lk7_seenShut {t : Nat} (h : kd0 t = 7) : kd0 (t + 9) = 10 := (lay7_9 h).1
theorem ll7_seenShut {t : Nat} (h : kd0 t = 7) : ln0 (t + 9) = 8 := (lay7_9 h).2
theorem lr7_gossipFrom {t : Nat} {i : Int32} {j : Int64} (h : kd0 t = 7) : fv (mty 7 10) i j (rf0 t 10) = .ref (t + 10) := by
  unfold rf0
  rw [h]
  rfl
theorem lk7_gossipFrom {t : Nat} (h : kd0 t = 7) : kd0 (t + 10) = 10 := (lay7_10 h).1
theorem ll7_gossipFrom {t : Nat} (h : kd0 t = 7) : ln0 (t + 10) = 8 := (lay7_10 h).2
theorem lr7_gossipTo {t : Nat} {i : Int32} {j : Int64} (h : kd0 t = 7) : fv (mty 7 11) i j (rf0 t 11) = .ref (t + 11) := by
  unfold rf0
  rw [h]
  rfl
theorem lk7_gossipTo {t : Nat} (h : kd0 t = 7) : kd0 (t + 11) = 10 := (lay7_11 h).1
theorem ll7_gossipTo {t : Nat} (h : kd0 t = 7) : ln0 (t + 11) = 8 := (lay7_11 h).2
def kL8 : List Nat := [0]
theorem kL8_all : ∀ t, t < 390 → kd0 t = 8 → t ∈ kL8 := by decide +kernel
theorem kL8_in {t : Nat} (h : kd0 t = 8) : t ∈ kL8 := by
  by_cases ht : t < 390
  · exact kL8_all t ht h
  · exact absurd h (by rw [kd0_out (by omega)]; decide)
theorem lay8_1_all : ∀ t ∈ kL8, (kd0 (t + 1) = 10 ∧ ln0 (t + 1) = 300) := by decide +kernel
theorem lay8_1 {t : Nat} (h : kd0 t = 8) : (kd0 (t + 1) = 10 ∧ ln0 (t + 1) = 300) := lay8_1_all t (kL8_in h)
theorem lay8_2_all : ∀ t ∈ kL8, (kd0 (t + 2) = 4 ∧ ln0 (t + 2) = 0) := by decide +kernel
theorem lay8_2 {t : Nat} (h : kd0 t = 8) : (kd0 (t + 2) = 4 ∧ ln0 (t + 2) = 0) := lay8_2_all t (kL8_in h)
theorem lay8_11_all : ∀ t ∈ kL8, (kd0 (t + 11) = 14 ∧ ln0 (t + 11) = 4) := by decide +kernel
theorem lay8_11 {t : Nat} (h : kd0 t = 8) : (kd0 (t + 11) = 14 ∧ ln0 (t + 11) = 4) := lay8_11_all t (kL8_in h)
theorem lay8_32_all : ∀ t ∈ kL8, (kd0 (t + 32) = 5 ∧ ln0 (t + 32) = 0) := by decide +kernel
theorem lay8_32 {t : Nat} (h : kd0 t = 8) : (kd0 (t + 32) = 5 ∧ ln0 (t + 32) = 0) := lay8_32_all t (kL8_in h)
theorem lay8_37_all : ∀ t ∈ kL8, (kd0 (t + 37) = 3 ∧ ln0 (t + 37) = 0) := by decide +kernel
theorem lay8_37 {t : Nat} (h : kd0 t = 8) : (kd0 (t + 37) = 3 ∧ ln0 (t + 37) = 0) := lay8_37_all t (kL8_in h)
theorem lay8_40_all : ∀ t ∈ kL8, (kd0 (t + 40) = 7 ∧ ln0 (t + 40) = 0) := by decide +kernel
theorem lay8_40 {t : Nat} (h : kd0 t = 8) : (kd0 (t + 40) = 7 ∧ ln0 (t + 40) = 0) := lay8_40_all t (kL8_in h)
theorem lay8_202_all : ∀ t ∈ kL8, (kd0 (t + 202) = 7 ∧ ln0 (t + 202) = 0) := by decide +kernel
theorem lay8_202 {t : Nat} (h : kd0 t = 8) : (kd0 (t + 202) = 7 ∧ ln0 (t + 202) = 0) := lay8_202_all t (kL8_in h)
theorem lay8_364_all : ∀ t ∈ kL8, (kd0 (t + 364) = 6 ∧ ln0 (t + 364) = 0) := by decide +kernel
theorem lay8_364 {t : Nat} (h : kd0 t = 8) : (kd0 (t + 364) = 6 ∧ ln0 (t + 364) = 0) := lay8_364_all t (kL8_in h)
theorem lay8_369_all : ∀ t ∈ kL8, (kd0 (t + 369) = 2 ∧ ln0 (t + 369) = 0) := by decide +kernel
theorem lay8_369 {t : Nat} (h : kd0 t = 8) : (kd0 (t + 369) = 2 ∧ ln0 (t + 369) = 0) := lay8_369_all t (kL8_in h)
theorem lay8_370_all : ∀ t ∈ kL8, (kd0 (t + 370) = 1 ∧ ln0 (t + 370) = 0) := by decide +kernel
theorem lay8_370 {t : Nat} (h : kd0 t = 8) : (kd0 (t + 370) = 1 ∧ ln0 (t + 370) = 0) := lay8_370_all t (kL8_in h)
theorem lay8_372_all : ∀ t ∈ kL8, (kd0 (t + 372) = 0 ∧ ln0 (t + 372) = 0) := by decide +kernel
theorem lay8_372 {t : Nat} (h : kd0 t = 8) : (kd0 (t + 372) = 0 ∧ ln0 (t + 372) = 0) := lay8_372_all t (kL8_in h)
theorem lr8_tape {t : Nat} {i : Int32} {j : Int64} (h : kd0 t = 8) : fv (mty 8 0) i j (rf0 t 0) = .ref (t + 1) := by
  unfold rf0
  rw [h]
  rfl
theorem lk8_tape {t : Nat} (h : kd0 t = 8) : kd0 (t + 1) = 10 := (lay8_1 h).1
theorem ll8_tape {t : Nat} (h : kd0 t = 8) : ln0 (t + 1) = 300 := (lay8_1 h).2
theorem lr8_reader {t : Nat} {i : Int32} {j : Int64} (h : kd0 t = 8) : fv (mty 8 3) i j (rf0 t 3) = .ref (t + 2) := by
  unfold rf0
  rw [h]
  rfl
theorem lk8_reader {t : Nat} (h : kd0 t = 8) : kd0 (t + 2) = 4 := (lay8_2 h).1
theorem ll8_reader {t : Nat} (h : kd0 t = 8) : ln0 (t + 2) = 0 := (lay8_2 h).2
theorem lr8_texts {t : Nat} {i : Int32} {j : Int64} (h : kd0 t = 8) : fv (mty 8 4) i j (rf0 t 4) = .ref (t + 11) := by
  unfold rf0
  rw [h]
  rfl
theorem lk8_texts {t : Nat} (h : kd0 t = 8) : kd0 (t + 11) = 14 := (lay8_11 h).1
theorem ll8_texts {t : Nat} (h : kd0 t = 8) : ln0 (t + 11) = 4 := (lay8_11 h).2
theorem lr8_lawless {t : Nat} {i : Int32} {j : Int64} (h : kd0 t = 8) : fv (mty 8 5) i j (rf0 t 5) = .ref (t + 32) := by
  unfold rf0
  rw [h]
  rfl
theorem lk8_lawless {t : Nat} (h : kd0 t = 8) : kd0 (t + 32) = 5 := (lay8_32 h).1
theorem ll8_lawless {t : Nat} (h : kd0 t = 8) : ln0 (t + 32) = 0 := (lay8_32 h).2
theorem lr8_laws {t : Nat} {i : Int32} {j : Int64} (h : kd0 t = 8) : fv (mty 8 6) i j (rf0 t 6) = .ref (t + 37) := by
  unfold rf0
  rw [h]
  rfl
theorem lk8_laws {t : Nat} (h : kd0 t = 8) : kd0 (t + 37) = 3 := (lay8_37 h).1
theorem ll8_laws {t : Nat} (h : kd0 t = 8) : ln0 (t + 37) = 0 := (lay8_37 h).2
theorem lr8_now {t : Nat} {i : Int32} {j : Int64} (h : kd0 t = 8) : fv (mty 8 7) i j (rf0 t 7) = .ref (t + 40) := by
  unfold rf0
  rw [h]
  rfl
theorem lk8_now {t : Nat} (h : kd0 t = 8) : kd0 (t + 40) = 7 := (lay8_40 h).1
theorem ll8_now {t : Nat} (h : kd0 t = 8) : ln0 (t + 40) = 0 := (lay8_40 h).2
theorem lr8_image {t : Nat} {i : Int32} {j : Int64} (h : kd0 t = 8) : fv (mty 8 8) i j (rf0 t 8) = .ref (t + 202) := by
  unfold rf0
  rw [h]
  rfl
theorem lk8_image {t : Nat} (h : kd0 t = 8) : kd0 (t + 202) = 7 := (lay8_202 h).1
theorem ll8_image {t : Nat} (h : kd0 t = 8) : ln0 (t + 202) = 0 := (lay8_202 h).2
theorem lr8_trial {t : Nat} {i : Int32} {j : Int64} (h : kd0 t = 8) : fv (mty 8 9) i j (rf0 t 9) = .ref (t + 364) := by
  unfold rf0
  rw [h]
  rfl
theorem lk8_trial {t : Nat} (h : kd0 t = 8) : kd0 (t + 364) = 6 := (lay8_364 h).1
theorem ll8_trial {t : Nat} (h : kd0 t = 8) : ln0 (t + 364) = 0 := (lay8_364 h).2
theorem lr8_guess {t : Nat} {i : Int32} {j : Int64} (h : kd0 t = 8) : fv (mty 8 10) i j (rf0 t 10) = .ref (t + 369) := by
  unfold rf0
  rw [h]
  rfl
theorem lk8_guess {t : Nat} (h : kd0 t = 8) : kd0 (t + 369) = 2 := (lay8_369 h).1
theorem ll8_guess {t : Nat} (h : kd0 t = 8) : ln0 (t + 369) = 0 := (lay8_369 h).2
theorem lr8_diary {t : Nat} {i : Int32} {j : Int64} (h : kd0 t = 8) : fv (mty 8 11) i j (rf0 t 11) = .ref (t + 370) := by
  unfold rf0
  rw [h]
  rfl
theorem lk8_diary {t : Nat} (h : kd0 t = 8) : kd0 (t + 370) = 1 := (lay8_370 h).1
theorem ll8_diary {t : Nat} (h : kd0 t = 8) : ln0 (t + 370) = 0 := (lay8_370 h).2
theorem lr8_couples {t : Nat} {i : Int32} {j : Int64} (h : kd0 t = 8) : fv (mty 8 12) i j (rf0 t 12) = .ref (t + 372) := by
  unfold rf0
  rw [h]
  rfl
theorem lk8_couples {t : Nat} (h : kd0 t = 8) : kd0 (t + 372) = 0 := (lay8_372 h).1
theorem ll8_couples {t : Nat} (h : kd0 t = 8) : ln0 (t + 372) = 0 := (lay8_372 h).2
def kL9 : List Nat := [375]
theorem kL9_all : ∀ t, t < 390 → kd0 t = 9 → t ∈ kL9 := by decide +kernel
theorem kL9_in {t : Nat} (h : kd0 t = 9) : t ∈ kL9 := by
  by_cases ht : t < 390
  · exact kL9_all t ht h
  · exact absurd h (by rw [kd0_out (by omega)]; decide)
theorem lay9_1_all : ∀ t ∈ kL9, (kd0 (t + 1) = 10 ∧ ln0 (t + 1) = 2308) := by decide +kernel
theorem lay9_1 {t : Nat} (h : kd0 t = 9) : (kd0 (t + 1) = 10 ∧ ln0 (t + 1) = 2308) := lay9_1_all t (kL9_in h)
theorem lay9_2_all : ∀ t ∈ kL9, (kd0 (t + 2) = 10 ∧ ln0 (t + 2) = 2308) := by decide +kernel
theorem lay9_2 {t : Nat} (h : kd0 t = 9) : (kd0 (t + 2) = 10 ∧ ln0 (t + 2) = 2308) := lay9_2_all t (kL9_in h)
theorem lay9_3_all : ∀ t ∈ kL9, (kd0 (t + 3) = 10 ∧ ln0 (t + 3) = 2820) := by decide +kernel
theorem lay9_3 {t : Nat} (h : kd0 t = 9) : (kd0 (t + 3) = 10 ∧ ln0 (t + 3) = 2820) := lay9_3_all t (kL9_in h)
theorem lay9_4_all : ∀ t ∈ kL9, (kd0 (t + 4) = 10 ∧ ln0 (t + 4) = 300) := by decide +kernel
theorem lay9_4 {t : Nat} (h : kd0 t = 9) : (kd0 (t + 4) = 10 ∧ ln0 (t + 4) = 300) := lay9_4_all t (kL9_in h)
theorem lay9_5_all : ∀ t ∈ kL9, (kd0 (t + 5) = 10 ∧ ln0 (t + 5) = 160) := by decide +kernel
theorem lay9_5 {t : Nat} (h : kd0 t = 9) : (kd0 (t + 5) = 10 ∧ ln0 (t + 5) = 160) := lay9_5_all t (kL9_in h)
theorem lay9_6_all : ∀ t ∈ kL9, (kd0 (t + 6) = 10 ∧ ln0 (t + 6) = 8) := by decide +kernel
theorem lay9_6 {t : Nat} (h : kd0 t = 9) : (kd0 (t + 6) = 10 ∧ ln0 (t + 6) = 8) := lay9_6_all t (kL9_in h)
theorem lay9_7_all : ∀ t ∈ kL9, (kd0 (t + 7) = 11 ∧ ln0 (t + 7) = 330) := by decide +kernel
theorem lay9_7 {t : Nat} (h : kd0 t = 9) : (kd0 (t + 7) = 11 ∧ ln0 (t + 7) = 330) := lay9_7_all t (kL9_in h)
theorem lay9_8_all : ∀ t ∈ kL9, (kd0 (t + 8) = 12 ∧ ln0 (t + 8) = 330) := by decide +kernel
theorem lay9_8 {t : Nat} (h : kd0 t = 9) : (kd0 (t + 8) = 12 ∧ ln0 (t + 8) = 330) := lay9_8_all t (kL9_in h)
theorem lay9_9_all : ∀ t ∈ kL9, (kd0 (t + 9) = 10 ∧ ln0 (t + 9) = 68) := by decide +kernel
theorem lay9_9 {t : Nat} (h : kd0 t = 9) : (kd0 (t + 9) = 10 ∧ ln0 (t + 9) = 68) := lay9_9_all t (kL9_in h)
theorem lay9_10_all : ∀ t ∈ kL9, (kd0 (t + 10) = 10 ∧ ln0 (t + 10) = 20) := by decide +kernel
theorem lay9_10 {t : Nat} (h : kd0 t = 9) : (kd0 (t + 10) = 10 ∧ ln0 (t + 10) = 20) := lay9_10_all t (kL9_in h)
theorem lay9_11_all : ∀ t ∈ kL9, (kd0 (t + 11) = 10 ∧ ln0 (t + 11) = 7) := by decide +kernel
theorem lay9_11 {t : Nat} (h : kd0 t = 9) : (kd0 (t + 11) = 10 ∧ ln0 (t + 11) = 7) := lay9_11_all t (kL9_in h)
theorem lay9_12_all : ∀ t ∈ kL9, (kd0 (t + 12) = 10 ∧ ln0 (t + 12) = 7) := by decide +kernel
theorem lay9_12 {t : Nat} (h : kd0 t = 9) : (kd0 (t + 12) = 10 ∧ ln0 (t + 12) = 7) := lay9_12_all t (kL9_in h)
theorem lay9_13_all : ∀ t ∈ kL9, (kd0 (t + 13) = 10 ∧ ln0 (t + 13) = 7) := by decide +kernel
theorem lay9_13 {t : Nat} (h : kd0 t = 9) : (kd0 (t + 13) = 10 ∧ ln0 (t + 13) = 7) := lay9_13_all t (kL9_in h)
theorem lay9_14_all : ∀ t ∈ kL9, (kd0 (t + 14) = 10 ∧ ln0 (t + 14) = 7) := by decide +kernel
theorem lay9_14 {t : Nat} (h : kd0 t = 9) : (kd0 (t + 14) = 10 ∧ ln0 (t + 14) = 7) := lay9_14_all t (kL9_in h)
theorem lr9_a {t : Nat} {i : Int32} {j : Int64} (h : kd0 t = 9) : fv (mty 9 0) i j (rf0 t 0) = .ref (t + 1) := by
  unfold rf0
  rw [h]
  rfl
theorem lk9_a {t : Nat} (h : kd0 t = 9) : kd0 (t + 1) = 10 := (lay9_1 h).1
theorem ll9_a {t : Nat} (h : kd0 t = 9) : ln0 (t + 1) = 2308 := (lay9_1 h).2
theorem lr9_image {t : Nat} {i : Int32} {j : Int64} (h : kd0 t = 9) : fv (mty 9 1) i j (rf0 t 1) = .ref (t + 2) := by
  unfold rf0
  rw [h]
  rfl
theorem lk9_image {t : Nat} (h : kd0 t = 9) : kd0 (t + 2) = 10 := (lay9_2 h).1
theorem ll9_image {t : Nat} (h : kd0 t = 9) : ln0 (t + 2) = 2308 := (lay9_2 h).2
theorem lr9_texts {t : Nat} {i : Int32} {j : Int64} (h : kd0 t = 9) : fv (mty 9 2) i j (rf0 t 2) = .ref (t + 3) := by
  unfold rf0
  rw [h]
  rfl
theorem lk9_texts {t : Nat} (h : kd0 t = 9) : kd0 (t + 3) = 10 := (lay9_3 h).1
theorem ll9_texts {t : Nat} (h : kd0 t = 9) : ln0 (t + 3) = 2820 := (lay9_3 h).2
theorem lr9_tape {t : Nat} {i : Int32} {j : Int64} (h : kd0 t = 9) : fv (mty 9 3) i j (rf0 t 3) = .ref (t + 4) := by
  unfold rf0
  rw [h]
  rfl
theorem lk9_tape {t : Nat} (h : kd0 t = 9) : kd0 (t + 4) = 10 := (lay9_4 h).1
theorem ll9_tape {t : Nat} (h : kd0 t = 9) : ln0 (t + 4) = 300 := (lay9_4 h).2
theorem lr9_pile {t : Nat} {i : Int32} {j : Int64} (h : kd0 t = 9) : fv (mty 9 15) i j (rf0 t 15) = .ref (t + 5) := by
  unfold rf0
  rw [h]
  rfl
theorem lk9_pile {t : Nat} (h : kd0 t = 9) : kd0 (t + 5) = 10 := (lay9_5 h).1
theorem ll9_pile {t : Nat} (h : kd0 t = 9) : ln0 (t + 5) = 160 := (lay9_5 h).2
theorem lr9_named {t : Nat} {i : Int32} {j : Int64} (h : kd0 t = 9) : fv (mty 9 21) i j (rf0 t 21) = .ref (t + 6) := by
  unfold rf0
  rw [h]
  rfl
theorem lk9_named {t : Nat} (h : kd0 t = 9) : kd0 (t + 6) = 10 := (lay9_6 h).1
theorem ll9_named {t : Nat} (h : kd0 t = 9) : ln0 (t + 6) = 8 := (lay9_6 h).2
theorem lr9_values {t : Nat} {i : Int32} {j : Int64} (h : kd0 t = 9) : fv (mty 9 22) i j (rf0 t 22) = .ref (t + 7) := by
  unfold rf0
  rw [h]
  rfl
theorem lk9_values {t : Nat} (h : kd0 t = 9) : kd0 (t + 7) = 11 := (lay9_7 h).1
theorem ll9_values {t : Nat} (h : kd0 t = 9) : ln0 (t + 7) = 330 := (lay9_7 h).2
theorem lr9_truth {t : Nat} {i : Int32} {j : Int64} (h : kd0 t = 9) : fv (mty 9 23) i j (rf0 t 23) = .ref (t + 8) := by
  unfold rf0
  rw [h]
  rfl
theorem lk9_truth {t : Nat} (h : kd0 t = 9) : kd0 (t + 8) = 12 := (lay9_8 h).1
theorem ll9_truth {t : Nat} (h : kd0 t = 9) : ln0 (t + 8) = 330 := (lay9_8 h).2
theorem lr9_aside {t : Nat} {i : Int32} {j : Int64} (h : kd0 t = 9) : fv (mty 9 24) i j (rf0 t 24) = .ref (t + 9) := by
  unfold rf0
  rw [h]
  rfl
theorem lk9_aside {t : Nat} (h : kd0 t = 9) : kd0 (t + 9) = 10 := (lay9_9 h).1
theorem ll9_aside {t : Nat} (h : kd0 t = 9) : ln0 (t + 9) = 68 := (lay9_9 h).2
theorem lr9_with {t : Nat} {i : Int32} {j : Int64} (h : kd0 t = 9) : fv (mty 9 29) i j (rf0 t 29) = .ref (t + 10) := by
  unfold rf0
  rw [h]
  rfl
theorem lk9_with {t : Nat} (h : kd0 t = 9) : kd0 (t + 10) = 10 := (lay9_10 h).1
theorem ll9_with {t : Nat} (h : kd0 t = 9) : ln0 (t + 10) = 20 := (lay9_10 h).2
theorem lr9_member {t : Nat} {i : Int32} {j : Int64} (h : kd0 t = 9) : fv (mty 9 32) i j (rf0 t 32) = .ref (t + 11) := by
  unfold rf0
  rw [h]
  rfl
theorem lk9_member {t : Nat} (h : kd0 t = 9) : kd0 (t + 11) = 10 := (lay9_11 h).1
theorem ll9_member {t : Nat} (h : kd0 t = 9) : ln0 (t + 11) = 7 := (lay9_11 h).2
theorem lr9_dayOf {t : Nat} {i : Int32} {j : Int64} (h : kd0 t = 9) : fv (mty 9 33) i j (rf0 t 33) = .ref (t + 12) := by
  unfold rf0
  rw [h]
  rfl
theorem lk9_dayOf {t : Nat} (h : kd0 t = 9) : kd0 (t + 12) = 10 := (lay9_12 h).1
theorem ll9_dayOf {t : Nat} (h : kd0 t = 9) : ln0 (t + 12) = 7 := (lay9_12 h).2
theorem lr9_mate {t : Nat} {i : Int32} {j : Int64} (h : kd0 t = 9) : fv (mty 9 34) i j (rf0 t 34) = .ref (t + 13) := by
  unfold rf0
  rw [h]
  rfl
theorem lk9_mate {t : Nat} (h : kd0 t = 9) : kd0 (t + 13) = 10 := (lay9_13 h).1
theorem ll9_mate {t : Nat} (h : kd0 t = 9) : ln0 (t + 13) = 7 := (lay9_13 h).2
theorem lr9_bestMate {t : Nat} {i : Int32} {j : Int64} (h : kd0 t = 9) : fv (mty 9 35) i j (rf0 t 35) = .ref (t + 14) := by
  unfold rf0
  rw [h]
  rfl
theorem lk9_bestMate {t : Nat} (h : kd0 t = 9) : kd0 (t + 14) = 10 := (lay9_14 h).1
theorem ll9_bestMate {t : Nat} (h : kd0 t = 9) : ln0 (t + 14) = 7 := (lay9_14 h).2
theorem kL13_all : ∀ t, t < 390 → kd0 t = 13 → t ∈ ([46, 208] : List Nat) := by decide +kernel
theorem lay13_all : ∀ t ∈ ([46, 208] : List Nat), ∀ k, k < 30 → kd0 (t + 6 + 5 * k) = 6 := by decide +kernel
theorem lay13 {t : Nat} (h : kd0 t = 13) {k : Nat} (hk : k < 30) : kd0 (t + 6 + 5 * k) = 6 := by
  by_cases ht : t < 390
  · exact lay13_all t (kL13_all t ht h) k hk
  · exact absurd h (by rw [kd0_out (by omega)]; decide)
theorem la13 {t : Nat} (h : kd0 t = 13) (k : Nat) (hk : k < 30) : rf0 t k = some (t + 6 + 5 * k) := by
  unfold rf0
  rw [h]
  exact if_pos hk
theorem kL14_all : ∀ t, t < 390 → kd0 t = 14 → t ∈ ([11] : List Nat) := by decide +kernel
theorem lay14_all : ∀ t ∈ ([11] : List Nat), ∀ k, k < 4 → kd0 (t + 1 + 5 * k) = 5 := by decide +kernel
theorem lay14 {t : Nat} (h : kd0 t = 14) {k : Nat} (hk : k < 4) : kd0 (t + 1 + 5 * k) = 5 := by
  by_cases ht : t < 390
  · exact lay14_all t (kL14_all t ht h) k hk
  · exact absurd h (by rw [kd0_out (by omega)]; decide)
theorem la14 {t : Nat} (h : kd0 t = 14) (k : Nat) (hk : k < 4) : rf0 t k = some (t + 1 + 5 * k) := by
  unfold rf0
  rw [h]
  exact if_pos hk
theorem inbN {i : Int32} {n : Nat} (h : vp_in i n) : i.toNatClampNeg < n := Nat.not_le.mp fun q => h (Or.inr q)
/-! ===== the words, one by one ===== -/
theorem ch1 : ∀ w ∈ wsL_law_r1, w ∈ wsL_law := fun _ h => List.mem_append_left _ (List.mem_append_left _ (List.mem_append_left _ (List.mem_append_left _ (List.mem_append_left _ (List.mem_append_left _ (List.mem_append_left _ (List.mem_append_left _ (List.mem_append_left _ (List.mem_append_left _ (List.mem_append_left _ (List.mem_append_left _ (h))))))))))))
theorem ch2 : ∀ w ∈ wsL_law_r2, w ∈ wsL_law := fun _ h => List.mem_append_left _ (List.mem_append_left _ (List.mem_append_left _ (List.mem_append_left _ (List.mem_append_left _ (List.mem_append_left _ (List.mem_append_left _ (List.mem_append_left _ (List.mem_append_left _ (List.mem_append_left _ (List.mem_append_left _ (List.mem_append_right _ (List.mem_append_left _ (h)))))))))))))
theorem ch3 : ∀ w ∈ wsL_law_r3, w ∈ wsL_law := fun _ h => List.mem_append_left _ (List.mem_append_left _ (List.mem_append_left _ (List.mem_append_left _ (List.mem_append_left _ (List.mem_append_left _ (List.mem_append_left _ (List.mem_append_left _ (List.mem_append_left _ (List.mem_append_left _ (List.mem_append_left _ (List.mem_append_right _ (List.mem_append_right _ (List.mem_append_left _ (h))))))))))))))
theorem ch4 : ∀ w ∈ wsL_law_r4, w ∈ wsL_law := fun _ h => List.mem_append_left _ (List.mem_append_left _ (List.mem_append_left _ (List.mem_append_left _ (List.mem_append_left _ (List.mem_append_left _ (List.mem_append_left _ (List.mem_append_left _ (List.mem_append_left _ (List.mem_append_left _ (List.mem_append_left _ (List.mem_append_right _ (List.mem_append_right _ (List.mem_append_right _ (List.mem_append_left _ (h)))))))))))))))
theorem ch5 : ∀ w ∈ wsL_law_r5, w ∈ wsL_law := fun _ h => List.mem_append_left _ (List.mem_append_left _ (List.mem_append_left _ (List.mem_append_left _ (List.mem_append_left _ (List.mem_append_left _ (List.mem_append_left _ (List.mem_append_left _ (List.mem_append_left _ (List.mem_append_left _ (List.mem_append_left _ (List.mem_append_right _ (List.mem_append_right _ (List.mem_append_right _ (List.mem_append_right _ (List.mem_append_left _ (h))))))))))))))))
theorem ch6 : ∀ w ∈ wsL_law_r6, w ∈ wsL_law := fun _ h => List.mem_append_left _ (List.mem_append_left _ (List.mem_append_left _ (List.mem_append_left _ (List.mem_append_left _ (List.mem_append_left _ (List.mem_append_left _ (List.mem_append_left _ (List.mem_append_left _ (List.mem_append_left _ (List.mem_append_left _ (List.mem_append_right _ (List.mem_append_right _ (List.mem_append_right _ (List.mem_append_right _ (List.mem_append_right _ (List.mem_append_left _ (h)))))))))))))))))
theorem ch7 : ∀ w ∈ wsL_law_r7, w ∈ wsL_law := fun _ h => List.mem_append_left _ (List.mem_append_left _ (List.mem_append_left _ (List.mem_append_left _ (List.mem_append_left _ (List.mem_append_left _ (List.mem_append_left _ (List.mem_append_left _ (List.mem_append_left _ (List.mem_append_left _ (List.mem_append_left _ (List.mem_append_right _ (List.mem_append_right _ (List.mem_append_right _ (List.mem_append_right _ (List.mem_append_right _ (List.mem_append_right _ (List.mem_append_left _ (h))))))))))))))))))
theorem ch8 : ∀ w ∈ wsL_law_r8, w ∈ wsL_law := fun _ h => List.mem_append_left _ (List.mem_append_left _ (List.mem_append_left _ (List.mem_append_left _ (List.mem_append_left _ (List.mem_append_left _ (List.mem_append_left _ (List.mem_append_left _ (List.mem_append_left _ (List.mem_append_left _ (List.mem_append_left _ (List.mem_append_right _ (List.mem_append_right _ (List.mem_append_right _ (List.mem_append_right _ (List.mem_append_right _ (List.mem_append_right _ (List.mem_append_right _ (List.mem_append_left _ (h)))))))))))))))))))
theorem ch9 : ∀ w ∈ wsL_law_r9, w ∈ wsL_law := fun _ h => List.mem_append_left _ (List.mem_append_left _ (List.mem_append_left _ (List.mem_append_left _ (List.mem_append_left _ (List.mem_append_left _ (List.mem_append_left _ (List.mem_append_left _ (List.mem_append_left _ (List.mem_append_left _ (List.mem_append_left _ (List.mem_append_right _ (List.mem_append_right _ (List.mem_append_right _ (List.mem_append_right _ (List.mem_append_right _ (List.mem_append_right _ (List.mem_append_right _ (List.mem_append_right _ (List.mem_append_left _ (h))))))))))))))))))))
theorem ch10 : ∀ w ∈ wsL_law_r10, w ∈ wsL_law := fun _ h => List.mem_append_left _ (List.mem_append_left _ (List.mem_append_left _ (List.mem_append_left _ (List.mem_append_left _ (List.mem_append_left _ (List.mem_append_left _ (List.mem_append_left _ (List.mem_append_left _ (List.mem_append_left _ (List.mem_append_left _ (List.mem_append_right _ (List.mem_append_right _ (List.mem_append_right _ (List.mem_append_right _ (List.mem_append_right _ (List.mem_append_right _ (List.mem_append_right _ (List.mem_append_right _ (List.mem_append_right _ (List.mem_append_left _ (h)))))))))))))))))))))
theorem ch11 : ∀ w ∈ wsL_law_r11, w ∈ wsL_law := fun _ h => List.mem_append_left _ (List.mem_append_left _ (List.mem_append_left _ (List.mem_append_left _ (List.mem_append_left _ (List.mem_append_left _ (List.mem_append_left _ (List.mem_append_left _ (List.mem_append_left _ (List.mem_append_left _ (List.mem_append_left _ (List.mem_append_right _ (List.mem_append_right _ (List.mem_append_right _ (List.mem_append_right _ (List.mem_append_right _ (List.mem_append_right _ (List.mem_append_right _ (List.mem_append_right _ (List.mem_append_right _ (List.mem_append_right _ (List.mem_append_left _ (h))))))))))))))))))))))
theorem ch12 : ∀ w ∈ wsL_law_r12, w ∈ wsL_law := fun _ h => List.mem_append_left _ (List.mem_append_left _ (List.mem_append_left _ (List.mem_append_left _ (List.mem_append_left _ (List.mem_append_left _ (List.mem_append_left _ (List.mem_append_left _ (List.mem_append_left _ (List.mem_append_left _ (List.mem_append_left _ (List.mem_append_right _ (List.mem_append_right _ (List.mem_append_right _ (List.mem_append_right _ (List.mem_append_right _ (List.mem_append_right _ (List.mem_append_right _ (List.mem_append_right _ (List.mem_append_right _ (List.mem_append_right _ (List.mem_append_right _ (List.mem_append_left _ (h)))))))))))))))))))))))
theorem ch13 : ∀ w ∈ wsL_law_r13, w ∈ wsL_law := fun _ h => List.mem_append_left _ (List.mem_append_left _ (List.mem_append_left _ (List.mem_append_left _ (List.mem_append_left _ (List.mem_append_left _ (List.mem_append_left _ (List.mem_append_left _ (List.mem_append_left _ (List.mem_append_left _ (List.mem_append_left _ (List.mem_append_right _ (List.mem_append_right _ (List.mem_append_right _ (List.mem_append_right _ (List.mem_append_right _ (List.mem_append_right _ (List.mem_append_right _ (List.mem_append_right _ (List.mem_append_right _ (List.mem_append_right _ (List.mem_append_right _ (List.mem_append_right _ (List.mem_append_left _ (h))))))))))))))))))))))))
theorem ch14 : ∀ w ∈ wsL_law_r14, w ∈ wsL_law := fun _ h => List.mem_append_left _ (List.mem_append_left _ (List.mem_append_left _ (List.mem_append_left _ (List.mem_append_left _ (List.mem_append_left _ (List.mem_append_left _ (List.mem_append_left _ (List.mem_append_left _ (List.mem_append_left _ (List.mem_append_left _ (List.mem_append_right _ (List.mem_append_right _ (List.mem_append_right _ (List.mem_append_right _ (List.mem_append_right _ (List.mem_append_right _ (List.mem_append_right _ (List.mem_append_right _ (List.mem_append_right _ (List.mem_append_right _ (List.mem_append_right _ (List.mem_append_right _ (List.mem_append_right _ (List.mem_append_left _ (h)))))))))))))))))))))))))
theorem ch15 : ∀ w ∈ wsL_law_r15, w ∈ wsL_law := fun _ h => List.mem_append_left _ (List.mem_append_left _ (List.mem_append_left _ (List.mem_append_left _ (List.mem_append_left _ (List.mem_append_left _ (List.mem_append_left _ (List.mem_append_left _ (List.mem_append_left _ (List.mem_append_left _ (List.mem_append_left _ (List.mem_append_right _ (List.mem_append_right _ (List.mem_append_right _ (List.mem_append_right _ (List.mem_append_right _ (List.mem_append_right _ (List.mem_append_right _ (List.mem_append_right _ (List.mem_append_right _ (List.mem_append_right _ (List.mem_append_right _ (List.mem_append_right _ (List.mem_append_right _ (List.mem_append_right _ (List.mem_append_left _ (h))))))))))))))))))))))))))
theorem ch16 : ∀ w ∈ wsL_law_r16, w ∈ wsL_law := fun _ h => List.mem_append_left _ (List.mem_append_left _ (List.mem_append_left _ (List.mem_append_left _ (List.mem_append_left _ (List.mem_append_left _ (List.mem_append_left _ (List.mem_append_left _ (List.mem_append_left _ (List.mem_append_left _ (List.mem_append_left _ (List.mem_append_right _ (List.mem_append_right _ (List.mem_append_right _ (List.mem_append_right _ (List.mem_append_right _ (List.mem_append_right _ (List.mem_append_right _ (List.mem_append_right _ (List.mem_append_right _ (List.mem_append_right _ (List.mem_append_right _ (List.mem_append_right _ (List.mem_append_right _ (List.mem_append_right _ (List.mem_append_right _ (List.mem_append_left _ (h)))))))))))))))))))))))))))
theorem ch17 : ∀ w ∈ wsL_law_r17, w ∈ wsL_law := fun _ h => List.mem_append_left _ (List.mem_append_left _ (List.mem_append_left _ (List.mem_append_left _ (List.mem_append_left _ (List.mem_append_left _ (List.mem_append_left _ (List.mem_append_left _ (List.mem_append_left _ (List.mem_append_left _ (List.mem_append_left _ (List.mem_append_right _ (List.mem_append_right _ (List.mem_append_right _ (List.mem_append_right _ (List.mem_append_right _ (List.mem_append_right _ (List.mem_append_right _ (List.mem_append_right _ (List.mem_append_right _ (List.mem_append_right _ (List.mem_append_right _ (List.mem_append_right _ (List.mem_append_right _ (List.mem_append_right _ (List.mem_append_right _ (List.mem_append_right _ (List.mem_append_left _ (h))))))))))))))))))))))))))))
theorem ch18 : ∀ w ∈ wsL_law_r18, w ∈ wsL_law := fun _ h => List.mem_append_left _ (List.mem_append_left _ (List.mem_append_left _ (List.mem_append_left _ (List.mem_append_left _ (List.mem_append_left _ (List.mem_append_left _ (List.mem_append_left _ (List.mem_append_left _ (List.mem_append_left _ (List.mem_append_left _ (List.mem_append_right _ (List.mem_append_right _ (List.mem_append_right _ (List.mem_append_right _ (List.mem_append_right _ (List.mem_append_right _ (List.mem_append_right _ (List.mem_append_right _ (List.mem_append_right _ (List.mem_append_right _ (List.mem_append_right _ (List.mem_append_right _ (List.mem_append_right _ (List.mem_append_right _ (List.mem_append_right _ (List.mem_append_right _ (List.mem_append_right _ (List.mem_append_left _ (h)))))))))))))))))))))))))))))
theorem ch19 : ∀ w ∈ wsL_law_r19, w ∈ wsL_law := fun _ h => List.mem_append_left _ (List.mem_append_left _ (List.mem_append_left _ (List.mem_append_left _ (List.mem_append_left _ (List.mem_append_left _ (List.mem_append_left _ (List.mem_append_left _ (List.mem_append_left _ (List.mem_append_left _ (List.mem_append_left _ (List.mem_append_right _ (List.mem_append_right _ (List.mem_append_right _ (List.mem_append_right _ (List.mem_append_right _ (List.mem_append_right _ (List.mem_append_right _ (List.mem_append_right _ (List.mem_append_right _ (List.mem_append_right _ (List.mem_append_right _ (List.mem_append_right _ (List.mem_append_right _ (List.mem_append_right _ (List.mem_append_right _ (List.mem_append_right _ (List.mem_append_right _ (List.mem_append_right _ (List.mem_append_left _ (h))))))))))))))))))))))))))))))
theorem ch20 : ∀ w ∈ wsL_law_r20, w ∈ wsL_law := fun _ h => List.mem_append_left _ (List.mem_append_left _ (List.mem_append_left _ (List.mem_append_left _ (List.mem_append_left _ (List.mem_append_left _ (List.mem_append_left _ (List.mem_append_left _ (List.mem_append_left _ (List.mem_append_left _ (List.mem_append_left _ (List.mem_append_right _ (List.mem_append_right _ (List.mem_append_right _ (List.mem_append_right _ (List.mem_append_right _ (List.mem_append_right _ (List.mem_append_right _ (List.mem_append_right _ (List.mem_append_right _ (List.mem_append_right _ (List.mem_append_right _ (List.mem_append_right _ (List.mem_append_right _ (List.mem_append_right _ (List.mem_append_right _ (List.mem_append_right _ (List.mem_append_right _ (List.mem_append_right _ (List.mem_append_right _ (List.mem_append_left _ (h)))))))))))))))))))))))))))))))
theorem ch21 : ∀ w ∈ wsL_law_r21, w ∈ wsL_law := fun _ h => List.mem_append_left _ (List.mem_append_left _ (List.mem_append_left _ (List.mem_append_left _ (List.mem_append_left _ (List.mem_append_left _ (List.mem_append_left _ (List.mem_append_left _ (List.mem_append_left _ (List.mem_append_left _ (List.mem_append_left _ (List.mem_append_right _ (List.mem_append_right _ (List.mem_append_right _ (List.mem_append_right _ (List.mem_append_right _ (List.mem_append_right _ (List.mem_append_right _ (List.mem_append_right _ (List.mem_append_right _ (List.mem_append_right _ (List.mem_append_right _ (List.mem_append_right _ (List.mem_append_right _ (List.mem_append_right _ (List.mem_append_right _ (List.mem_append_right _ (List.mem_append_right _ (List.mem_append_right _ (List.mem_append_right _ (List.mem_append_right _ (List.mem_append_left _ (h))))))))))))))))))))))))))))))))
theorem ch22 : ∀ w ∈ wsL_law_r22, w ∈ wsL_law := fun _ h => List.mem_append_left _ (List.mem_append_left _ (List.mem_append_left _ (List.mem_append_left _ (List.mem_append_left _ (List.mem_append_left _ (List.mem_append_left _ (List.mem_append_left _ (List.mem_append_left _ (List.mem_append_left _ (List.mem_append_left _ (List.mem_append_right _ (List.mem_append_right _ (List.mem_append_right _ (List.mem_append_right _ (List.mem_append_right _ (List.mem_append_right _ (List.mem_append_right _ (List.mem_append_right _ (List.mem_append_right _ (List.mem_append_right _ (List.mem_append_right _ (List.mem_append_right _ (List.mem_append_right _ (List.mem_append_right _ (List.mem_append_right _ (List.mem_append_right _ (List.mem_append_right _ (List.mem_append_right _ (List.mem_append_right _ (List.mem_append_right _ (List.mem_append_right _ (List.mem_append_left _ (h)))))))))))))))))))))))))))))))))
theorem ch23 : ∀ w ∈ wsL_law_r23, w ∈ wsL_law := fun _ h => List.mem_append_left _ (List.mem_append_left _ (List.mem_append_left _ (List.mem_append_left _ (List.mem_append_left _ (List.mem_append_left _ (List.mem_append_left _ (List.mem_append_left _ (List.mem_append_left _ (List.mem_append_left _ (List.mem_append_left _ (List.mem_append_right _ (List.mem_append_right _ (List.mem_append_right _ (List.mem_append_right _ (List.mem_append_right _ (List.mem_append_right _ (List.mem_append_right _ (List.mem_append_right _ (List.mem_append_right _ (List.mem_append_right _ (List.mem_append_right _ (List.mem_append_right _ (List.mem_append_right _ (List.mem_append_right _ (List.mem_append_right _ (List.mem_append_right _ (List.mem_append_right _ (List.mem_append_right _ (List.mem_append_right _ (List.mem_append_right _ (List.mem_append_right _ (List.mem_append_right _ (List.mem_append_left _ (h))))))))))))))))))))))))))))))))))
theorem ch24 : ∀ w ∈ wsL_law_r24, w ∈ wsL_law := fun _ h => List.mem_append_left _ (List.mem_append_left _ (List.mem_append_left _ (List.mem_append_left _ (List.mem_append_left _ (List.mem_append_left _ (List.mem_append_left _ (List.mem_append_left _ (List.mem_append_left _ (List.mem_append_left _ (List.mem_append_left _ (List.mem_append_right _ (List.mem_append_right _ (List.mem_append_right _ (List.mem_append_right _ (List.mem_append_right _ (List.mem_append_right _ (List.mem_append_right _ (List.mem_append_right _ (List.mem_append_right _ (List.mem_append_right _ (List.mem_append_right _ (List.mem_append_right _ (List.mem_append_right _ (List.mem_append_right _ (List.mem_append_right _ (List.mem_append_right _ (List.mem_append_right _ (List.mem_append_right _ (List.mem_append_right _ (List.mem_append_right _ (List.mem_append_right _ (List.mem_append_right _ (List.mem_append_right _ (List.mem_append_left _ (h)))))))))))))))))))))))))))))))))))
theorem ch25 : ∀ w ∈ wsL_law_r25, w ∈ wsL_law := fun _ h => List.mem_append_left _ (List.mem_append_left _ (List.mem_append_left _ (List.mem_append_left _ (List.mem_append_left _ (List.mem_append_left _ (List.mem_append_left _ (List.mem_append_left _ (List.mem_append_left _ (List.mem_append_left _ (List.mem_append_left _ (List.mem_append_right _ (List.mem_append_right _ (List.mem_append_right _ (List.mem_append_right _ (List.mem_append_right _ (List.mem_append_right _ (List.mem_append_right _ (List.mem_append_right _ (List.mem_append_right _ (List.mem_append_right _ (List.mem_append_right _ (List.mem_append_right _ (List.mem_append_right _ (List.mem_append_right _ (List.mem_append_right _ (List.mem_append_right _ (List.mem_append_right _ (List.mem_append_right _ (List.mem_append_right _ (List.mem_append_right _ (List.mem_append_right _ (List.mem_append_right _ (List.mem_append_right _ (List.mem_append_right _ (List.mem_append_left _ (h))))))))))))))))))))))))))))))))))))
theorem ch26 : ∀ w ∈ wsL_law_r26, w ∈ wsL_law := fun _ h => List.mem_append_left _ (List.mem_append_left _ (List.mem_append_left _ (List.mem_append_left _ (List.mem_append_left _ (List.mem_append_left _ (List.mem_append_left _ (List.mem_append_left _ (List.mem_append_left _ (List.mem_append_left _ (List.mem_append_left _ (List.mem_append_right _ (List.mem_append_right _ (List.mem_append_right _ (List.mem_append_right _ (List.mem_append_right _ (List.mem_append_right _ (List.mem_append_right _ (List.mem_append_right _ (List.mem_append_right _ (List.mem_append_right _ (List.mem_append_right _ (List.mem_append_right _ (List.mem_append_right _ (List.mem_append_right _ (List.mem_append_right _ (List.mem_append_right _ (List.mem_append_right _ (List.mem_append_right _ (List.mem_append_right _ (List.mem_append_right _ (List.mem_append_right _ (List.mem_append_right _ (List.mem_append_right _ (List.mem_append_right _ (List.mem_append_right _ (List.mem_append_left _ (h)))))))))))))))))))))))))))))))))))))
theorem ch27 : ∀ w ∈ wsL_law_r27, w ∈ wsL_law := fun _ h => List.mem_append_left _ (List.mem_append_left _ (List.mem_append_left _ (List.mem_append_left _ (List.mem_append_left _ (List.mem_append_left _ (List.mem_append_left _ (List.mem_append_left _ (List.mem_append_left _ (List.mem_append_left _ (List.mem_append_left _ (List.mem_append_right _ (List.mem_append_right _ (List.mem_append_right _ (List.mem_append_right _ (List.mem_append_right _ (List.mem_append_right _ (List.mem_append_right _ (List.mem_append_right _ (List.mem_append_right _ (List.mem_append_right _ (List.mem_append_right _ (List.mem_append_right _ (List.mem_append_right _ (List.mem_append_right _ (List.mem_append_right _ (List.mem_append_right _ (List.mem_append_right _ (List.mem_append_right _ (List.mem_append_right _ (List.mem_append_right _ (List.mem_append_right _ (List.mem_append_right _ (List.mem_append_right _ (List.mem_append_right _ (List.mem_append_right _ (List.mem_append_right _ (List.mem_append_left _ (h))))))))))))))))))))))))))))))))))))))
theorem ch28 : ∀ w ∈ wsL_law_r28, w ∈ wsL_law := fun _ h => List.mem_append_left _ (List.mem_append_left _ (List.mem_append_left _ (List.mem_append_left _ (List.mem_append_left _ (List.mem_append_left _ (List.mem_append_left _ (List.mem_append_left _ (List.mem_append_left _ (List.mem_append_left _ (List.mem_append_left _ (List.mem_append_right _ (List.mem_append_right _ (List.mem_append_right _ (List.mem_append_right _ (List.mem_append_right _ (List.mem_append_right _ (List.mem_append_right _ (List.mem_append_right _ (List.mem_append_right _ (List.mem_append_right _ (List.mem_append_right _ (List.mem_append_right _ (List.mem_append_right _ (List.mem_append_right _ (List.mem_append_right _ (List.mem_append_right _ (List.mem_append_right _ (List.mem_append_right _ (List.mem_append_right _ (List.mem_append_right _ (List.mem_append_right _ (List.mem_append_right _ (List.mem_append_right _ (List.mem_append_right _ (List.mem_append_right _ (List.mem_append_right _ (List.mem_append_right _ (List.mem_append_left _ (h)))))))))))))))))))))))))))))))))))))))
theorem ch29 : ∀ w ∈ wsL_law_r29, w ∈ wsL_law := fun _ h => List.mem_append_left _ (List.mem_append_left _ (List.mem_append_left _ (List.mem_append_left _ (List.mem_append_left _ (List.mem_append_left _ (List.mem_append_left _ (List.mem_append_left _ (List.mem_append_left _ (List.mem_append_left _ (List.mem_append_left _ (List.mem_append_right _ (List.mem_append_right _ (List.mem_append_right _ (List.mem_append_right _ (List.mem_append_right _ (List.mem_append_right _ (List.mem_append_right _ (List.mem_append_right _ (List.mem_append_right _ (List.mem_append_right _ (List.mem_append_right _ (List.mem_append_right _ (List.mem_append_right _ (List.mem_append_right _ (List.mem_append_right _ (List.mem_append_right _ (List.mem_append_right _ (List.mem_append_right _ (List.mem_append_right _ (List.mem_append_right _ (List.mem_append_right _ (List.mem_append_right _ (List.mem_append_right _ (List.mem_append_right _ (List.mem_append_right _ (List.mem_append_right _ (List.mem_append_right _ (List.mem_append_right _ (List.mem_append_left _ (h))))))))))))))))))))))))))))))))))))))))
theorem ch30 : ∀ w ∈ wsL_law_r30, w ∈ wsL_law := fun _ h => List.mem_append_left _ (List.mem_append_left _ (List.mem_append_left _ (List.mem_append_left _ (List.mem_append_left _ (List.mem_append_left _ (List.mem_append_left _ (List.mem_append_left _ (List.mem_append_left _ (List.mem_append_left _ (List.mem_append_left _ (List.mem_append_right _ (List.mem_append_right _ (List.mem_append_right _ (List.mem_append_right _ (List.mem_append_right _ (List.mem_append_right _ (List.mem_append_right _ (List.mem_append_right _ (List.mem_append_right _ (List.mem_append_right _ (List.mem_append_right _ (List.mem_append_right _ (List.mem_append_right _ (List.mem_append_right _ (List.mem_append_right _ (List.mem_append_right _ (List.mem_append_right _ (List.mem_append_right _ (List.mem_append_right _ (List.mem_append_right _ (List.mem_append_right _ (List.mem_append_right _ (List.mem_append_right _ (List.mem_append_right _ (List.mem_append_right _ (List.mem_append_right _ (List.mem_append_right _ (List.mem_append_right _ (List.mem_append_right _ (List.mem_append_left _ (h)))))))))))))))))))))))))))))))))))))))))
theorem ch31 : ∀ w ∈ wsL_law_r31, w ∈ wsL_law := fun _ h => List.mem_append_left _ (List.mem_append_left _ (List.mem_append_left _ (List.mem_append_left _ (List.mem_append_left _ (List.mem_append_left _ (List.mem_append_left _ (List.mem_append_left _ (List.mem_append_left _ (List.mem_append_left _ (List.mem_append_left _ (List.mem_append_right _ (List.mem_append_right _ (List.mem_append_right _ (List.mem_append_right _ (List.mem_append_right _ (List.mem_append_right _ (List.mem_append_right _ (List.mem_append_right _ (List.mem_append_right _ (List.mem_append_right _ (List.mem_append_right _ (List.mem_append_right _ (List.mem_append_right _ (List.mem_append_right _ (List.mem_append_right _ (List.mem_append_right _ (List.mem_append_right _ (List.mem_append_right _ (List.mem_append_right _ (List.mem_append_right _ (List.mem_append_right _ (List.mem_append_right _ (List.mem_append_right _ (List.mem_append_right _ (List.mem_append_right _ (List.mem_append_right _ (List.mem_append_right _ (List.mem_append_right _ (List.mem_append_right _ (List.mem_append_right _ (List.mem_append_left _ (h))))))))))))))))))))))))))))))))))))))))))
theorem ch32 : ∀ w ∈ wsL_law_r32, w ∈ wsL_law := fun _ h => List.mem_append_left _ (List.mem_append_left _ (List.mem_append_left _ (List.mem_append_left _ (List.mem_append_left _ (List.mem_append_left _ (List.mem_append_left _ (List.mem_append_left _ (List.mem_append_left _ (List.mem_append_left _ (List.mem_append_left _ (List.mem_append_right _ (List.mem_append_right _ (List.mem_append_right _ (List.mem_append_right _ (List.mem_append_right _ (List.mem_append_right _ (List.mem_append_right _ (List.mem_append_right _ (List.mem_append_right _ (List.mem_append_right _ (List.mem_append_right _ (List.mem_append_right _ (List.mem_append_right _ (List.mem_append_right _ (List.mem_append_right _ (List.mem_append_right _ (List.mem_append_right _ (List.mem_append_right _ (List.mem_append_right _ (List.mem_append_right _ (List.mem_append_right _ (List.mem_append_right _ (List.mem_append_right _ (List.mem_append_right _ (List.mem_append_right _ (List.mem_append_right _ (List.mem_append_right _ (List.mem_append_right _ (List.mem_append_right _ (List.mem_append_right _ (List.mem_append_right _ (List.mem_append_left _ (h)))))))))))))))))))))))))))))))))))))))))))
theorem ch33 : ∀ w ∈ wsL_law_r33, w ∈ wsL_law := fun _ h => List.mem_append_left _ (List.mem_append_left _ (List.mem_append_left _ (List.mem_append_left _ (List.mem_append_left _ (List.mem_append_left _ (List.mem_append_left _ (List.mem_append_left _ (List.mem_append_left _ (List.mem_append_left _ (List.mem_append_left _ (List.mem_append_right _ (List.mem_append_right _ (List.mem_append_right _ (List.mem_append_right _ (List.mem_append_right _ (List.mem_append_right _ (List.mem_append_right _ (List.mem_append_right _ (List.mem_append_right _ (List.mem_append_right _ (List.mem_append_right _ (List.mem_append_right _ (List.mem_append_right _ (List.mem_append_right _ (List.mem_append_right _ (List.mem_append_right _ (List.mem_append_right _ (List.mem_append_right _ (List.mem_append_right _ (List.mem_append_right _ (List.mem_append_right _ (List.mem_append_right _ (List.mem_append_right _ (List.mem_append_right _ (List.mem_append_right _ (List.mem_append_right _ (List.mem_append_right _ (List.mem_append_right _ (List.mem_append_right _ (List.mem_append_right _ (List.mem_append_right _ (List.mem_append_right _ (List.mem_append_left _ (h))))))))))))))))))))))))))))))))))))))))))))
theorem ch34 : ∀ w ∈ wsL_law_r34, w ∈ wsL_law := fun _ h => List.mem_append_left _ (List.mem_append_left _ (List.mem_append_left _ (List.mem_append_left _ (List.mem_append_left _ (List.mem_append_left _ (List.mem_append_left _ (List.mem_append_left _ (List.mem_append_left _ (List.mem_append_left _ (List.mem_append_left _ (List.mem_append_right _ (List.mem_append_right _ (List.mem_append_right _ (List.mem_append_right _ (List.mem_append_right _ (List.mem_append_right _ (List.mem_append_right _ (List.mem_append_right _ (List.mem_append_right _ (List.mem_append_right _ (List.mem_append_right _ (List.mem_append_right _ (List.mem_append_right _ (List.mem_append_right _ (List.mem_append_right _ (List.mem_append_right _ (List.mem_append_right _ (List.mem_append_right _ (List.mem_append_right _ (List.mem_append_right _ (List.mem_append_right _ (List.mem_append_right _ (List.mem_append_right _ (List.mem_append_right _ (List.mem_append_right _ (List.mem_append_right _ (List.mem_append_right _ (List.mem_append_right _ (List.mem_append_right _ (List.mem_append_right _ (List.mem_append_right _ (List.mem_append_right _ (List.mem_append_right _ (List.mem_append_left _ (h)))))))))))))))))))))))))))))))))))))))))))))
theorem ch35 : ∀ w ∈ wsL_law_r35, w ∈ wsL_law := fun _ h => List.mem_append_left _ (List.mem_append_left _ (List.mem_append_left _ (List.mem_append_left _ (List.mem_append_left _ (List.mem_append_left _ (List.mem_append_left _ (List.mem_append_left _ (List.mem_append_left _ (List.mem_append_left _ (List.mem_append_left _ (List.mem_append_right _ (List.mem_append_right _ (List.mem_append_right _ (List.mem_append_right _ (List.mem_append_right _ (List.mem_append_right _ (List.mem_append_right _ (List.mem_append_right _ (List.mem_append_right _ (List.mem_append_right _ (List.mem_append_right _ (List.mem_append_right _ (List.mem_append_right _ (List.mem_append_right _ (List.mem_append_right _ (List.mem_append_right _ (List.mem_append_right _ (List.mem_append_right _ (List.mem_append_right _ (List.mem_append_right _ (List.mem_append_right _ (List.mem_append_right _ (List.mem_append_right _ (List.mem_append_right _ (List.mem_append_right _ (List.mem_append_right _ (List.mem_append_right _ (List.mem_append_right _ (List.mem_append_right _ (List.mem_append_right _ (List.mem_append_right _ (List.mem_append_right _ (List.mem_append_right _ (List.mem_append_right _ (List.mem_append_left _ (h))))))))))))))))))))))))))))))))))))))))))))))
theorem ch36 : ∀ w ∈ wsL_law_r36, w ∈ wsL_law := fun _ h => List.mem_append_left _ (List.mem_append_left _ (List.mem_append_left _ (List.mem_append_left _ (List.mem_append_left _ (List.mem_append_left _ (List.mem_append_left _ (List.mem_append_left _ (List.mem_append_left _ (List.mem_append_left _ (List.mem_append_left _ (List.mem_append_right _ (List.mem_append_right _ (List.mem_append_right _ (List.mem_append_right _ (List.mem_append_right _ (List.mem_append_right _ (List.mem_append_right _ (List.mem_append_right _ (List.mem_append_right _ (List.mem_append_right _ (List.mem_append_right _ (List.mem_append_right _ (List.mem_append_right _ (List.mem_append_right _ (List.mem_append_right _ (List.mem_append_right _ (List.mem_append_right _ (List.mem_append_right _ (List.mem_append_right _ (List.mem_append_right _ (List.mem_append_right _ (List.mem_append_right _ (List.mem_append_right _ (List.mem_append_right _ (List.mem_append_right _ (List.mem_append_right _ (List.mem_append_right _ (List.mem_append_right _ (List.mem_append_right _ (List.mem_append_right _ (List.mem_append_right _ (List.mem_append_right _ (List.mem_append_right _ (List.mem_append_right _ (List.mem_append_right _ (List.mem_append_left _ (h)))))))))))))))))))))))))))))))))))))))))))))))
theorem ch37 : ∀ w ∈ wsL_law_r37, w ∈ wsL_law := fun _ h => List.mem_append_left _ (List.mem_append_left _ (List.mem_append_left _ (List.mem_append_left _ (List.mem_append_left _ (List.mem_append_left _ (List.mem_append_left _ (List.mem_append_left _ (List.mem_append_left _ (List.mem_append_left _ (List.mem_append_left _ (List.mem_append_right _ (List.mem_append_right _ (List.mem_append_right _ (List.mem_append_right _ (List.mem_append_right _ (List.mem_append_right _ (List.mem_append_right _ (List.mem_append_right _ (List.mem_append_right _ (List.mem_append_right _ (List.mem_append_right _ (List.mem_append_right _ (List.mem_append_right _ (List.mem_append_right _ (List.mem_append_right _ (List.mem_append_right _ (List.mem_append_right _ (List.mem_append_right _ (List.mem_append_right _ (List.mem_append_right _ (List.mem_append_right _ (List.mem_append_right _ (List.mem_append_right _ (List.mem_append_right _ (List.mem_append_right _ (List.mem_append_right _ (List.mem_append_right _ (List.mem_append_right _ (List.mem_append_right _ (List.mem_append_right _ (List.mem_append_right _ (List.mem_append_right _ (List.mem_append_right _ (List.mem_append_right _ (List.mem_append_right _ (List.mem_append_right _ (List.mem_append_left _ (h))))))))))))))))))))))))))))))))))))))))))))))))
theorem ch38 : ∀ w ∈ wsL_law_r38, w ∈ wsL_law := fun _ h => List.mem_append_left _ (List.mem_append_left _ (List.mem_append_left _ (List.mem_append_left _ (List.mem_append_left _ (List.mem_append_left _ (List.mem_append_left _ (List.mem_append_left _ (List.mem_append_left _ (List.mem_append_left _ (List.mem_append_left _ (List.mem_append_right _ (List.mem_append_right _ (List.mem_append_right _ (List.mem_append_right _ (List.mem_append_right _ (List.mem_append_right _ (List.mem_append_right _ (List.mem_append_right _ (List.mem_append_right _ (List.mem_append_right _ (List.mem_append_right _ (List.mem_append_right _ (List.mem_append_right _ (List.mem_append_right _ (List.mem_append_right _ (List.mem_append_right _ (List.mem_append_right _ (List.mem_append_right _ (List.mem_append_right _ (List.mem_append_right _ (List.mem_append_right _ (List.mem_append_right _ (List.mem_append_right _ (List.mem_append_right _ (List.mem_append_right _ (List.mem_append_right _ (List.mem_append_right _ (List.mem_append_right _ (List.mem_append_right _ (List.mem_append_right _ (List.mem_append_right _ (List.mem_append_right _ (List.mem_append_right _ (List.mem_append_right _ (List.mem_append_right _ (List.mem_append_right _ (List.mem_append_right _ (List.mem_append_left _ (h)))))))))))))))))))))))))))))))))))))))))))))))))
theorem ch39 : ∀ w ∈ wsL_law_r39, w ∈ wsL_law := fun _ h => List.mem_append_left _ (List.mem_append_left _ (List.mem_append_left _ (List.mem_append_left _ (List.mem_append_left _ (List.mem_append_left _ (List.mem_append_left _ (List.mem_append_left _ (List.mem_append_left _ (List.mem_append_left _ (List.mem_append_left _ (List.mem_append_right _ (List.mem_append_right _ (List.mem_append_right _ (List.mem_append_right _ (List.mem_append_right _ (List.mem_append_right _ (List.mem_append_right _ (List.mem_append_right _ (List.mem_append_right _ (List.mem_append_right _ (List.mem_append_right _ (List.mem_append_right _ (List.mem_append_right _ (List.mem_append_right _ (List.mem_append_right _ (List.mem_append_right _ (List.mem_append_right _ (List.mem_append_right _ (List.mem_append_right _ (List.mem_append_right _ (List.mem_append_right _ (List.mem_append_right _ (List.mem_append_right _ (List.mem_append_right _ (List.mem_append_right _ (List.mem_append_right _ (List.mem_append_right _ (List.mem_append_right _ (List.mem_append_right _ (List.mem_append_right _ (List.mem_append_right _ (List.mem_append_right _ (List.mem_append_right _ (List.mem_append_right _ (List.mem_append_right _ (List.mem_append_right _ (List.mem_append_right _ (List.mem_append_right _ (List.mem_append_left _ (h))))))))))))))))))))))))))))))))))))))))))))))))))
theorem ch40 : ∀ w ∈ wsL_law_r40, w ∈ wsL_law := fun _ h => List.mem_append_left _ (List.mem_append_left _ (List.mem_append_left _ (List.mem_append_left _ (List.mem_append_left _ (List.mem_append_left _ (List.mem_append_left _ (List.mem_append_left _ (List.mem_append_left _ (List.mem_append_left _ (List.mem_append_left _ (List.mem_append_right _ (List.mem_append_right _ (List.mem_append_right _ (List.mem_append_right _ (List.mem_append_right _ (List.mem_append_right _ (List.mem_append_right _ (List.mem_append_right _ (List.mem_append_right _ (List.mem_append_right _ (List.mem_append_right _ (List.mem_append_right _ (List.mem_append_right _ (List.mem_append_right _ (List.mem_append_right _ (List.mem_append_right _ (List.mem_append_right _ (List.mem_append_right _ (List.mem_append_right _ (List.mem_append_right _ (List.mem_append_right _ (List.mem_append_right _ (List.mem_append_right _ (List.mem_append_right _ (List.mem_append_right _ (List.mem_append_right _ (List.mem_append_right _ (List.mem_append_right _ (List.mem_append_right _ (List.mem_append_right _ (List.mem_append_right _ (List.mem_append_right _ (List.mem_append_right _ (List.mem_append_right _ (List.mem_append_right _ (List.mem_append_right _ (List.mem_append_right _ (List.mem_append_right _ (List.mem_append_right _ (List.mem_append_left _ (h)))))))))))))))))))))))))))))))))))))))))))))))))))
theorem ch41 : ∀ w ∈ wsL_law_r41, w ∈ wsL_law := fun _ h => List.mem_append_left _ (List.mem_append_left _ (List.mem_append_left _ (List.mem_append_left _ (List.mem_append_left _ (List.mem_append_left _ (List.mem_append_left _ (List.mem_append_left _ (List.mem_append_left _ (List.mem_append_left _ (List.mem_append_left _ (List.mem_append_right _ (List.mem_append_right _ (List.mem_append_right _ (List.mem_append_right _ (List.mem_append_right _ (List.mem_append_right _ (List.mem_append_right _ (List.mem_append_right _ (List.mem_append_right _ (List.mem_append_right _ (List.mem_append_right _ (List.mem_append_right _ (List.mem_append_right _ (List.mem_append_right _ (List.mem_append_right _ (List.mem_append_right _ (List.mem_append_right _ (List.mem_append_right _ (List.mem_append_right _ (List.mem_append_right _ (List.mem_append_right _ (List.mem_append_right _ (List.mem_append_right _ (List.mem_append_right _ (List.mem_append_right _ (List.mem_append_right _ (List.mem_append_right _ (List.mem_append_right _ (List.mem_append_right _ (List.mem_append_right _ (List.mem_append_right _ (List.mem_append_right _ (List.mem_append_right _ (List.mem_append_right _ (List.mem_append_right _ (List.mem_append_right _ (List.mem_append_right _ (List.mem_append_right _ (List.mem_append_right _ (List.mem_append_right _ (List.mem_append_left _ (h))))))))))))))))))))))))))))))))))))))))))))))))))))
theorem ch42 : ∀ w ∈ wsL_law_r42, w ∈ wsL_law := fun _ h => List.mem_append_left _ (List.mem_append_left _ (List.mem_append_left _ (List.mem_append_left _ (List.mem_append_left _ (List.mem_append_left _ (List.mem_append_left _ (List.mem_append_left _ (List.mem_append_left _ (List.mem_append_left _ (List.mem_append_left _ (List.mem_append_right _ (List.mem_append_right _ (List.mem_append_right _ (List.mem_append_right _ (List.mem_append_right _ (List.mem_append_right _ (List.mem_append_right _ (List.mem_append_right _ (List.mem_append_right _ (List.mem_append_right _ (List.mem_append_right _ (List.mem_append_right _ (List.mem_append_right _ (List.mem_append_right _ (List.mem_append_right _ (List.mem_append_right _ (List.mem_append_right _ (List.mem_append_right _ (List.mem_append_right _ (List.mem_append_right _ (List.mem_append_right _ (List.mem_append_right _ (List.mem_append_right _ (List.mem_append_right _ (List.mem_append_right _ (List.mem_append_right _ (List.mem_append_right _ (List.mem_append_right _ (List.mem_append_right _ (List.mem_append_right _ (List.mem_append_right _ (List.mem_append_right _ (List.mem_append_right _ (List.mem_append_right _ (List.mem_append_right _ (List.mem_append_right _ (List.mem_append_right _ (List.mem_append_right _ (List.mem_append_right _ (List.mem_append_right _ (List.mem_append_right _ (List.mem_append_left _ (h)))))))))))))))))))))))))))))))))))))))))))))))))))))
theorem ch43 : ∀ w ∈ wsL_law_r43, w ∈ wsL_law := fun _ h => List.mem_append_left _ (List.mem_append_left _ (List.mem_append_left _ (List.mem_append_left _ (List.mem_append_left _ (List.mem_append_left _ (List.mem_append_left _ (List.mem_append_left _ (List.mem_append_left _ (List.mem_append_left _ (List.mem_append_left _ (List.mem_append_right _ (List.mem_append_right _ (List.mem_append_right _ (List.mem_append_right _ (List.mem_append_right _ (List.mem_append_right _ (List.mem_append_right _ (List.mem_append_right _ (List.mem_append_right _ (List.mem_append_right _ (List.mem_append_right _ (List.mem_append_right _ (List.mem_append_right _ (List.mem_append_right _ (List.mem_append_right _ (List.mem_append_right _ (List.mem_append_right _ (List.mem_append_right _ (List.mem_append_right _ (List.mem_append_right _ (List.mem_append_right _ (List.mem_append_right _ (List.mem_append_right _ (List.mem_append_right _ (List.mem_append_right _ (List.mem_append_right _ (List.mem_append_right _ (List.mem_append_right _ (List.mem_append_right _ (List.mem_append_right _ (List.mem_append_right _ (List.mem_append_right _ (List.mem_append_right _ (List.mem_append_right _ (List.mem_append_right _ (List.mem_append_right _ (List.mem_append_right _ (List.mem_append_right _ (List.mem_append_right _ (List.mem_append_right _ (List.mem_append_right _ (List.mem_append_right _ (List.mem_append_left _ (h))))))))))))))))))))))))))))))))))))))))))))))))))))))
theorem ch44 : ∀ w ∈ wsL_law_r44, w ∈ wsL_law := fun _ h => List.mem_append_left _ (List.mem_append_left _ (List.mem_append_left _ (List.mem_append_left _ (List.mem_append_left _ (List.mem_append_left _ (List.mem_append_left _ (List.mem_append_left _ (List.mem_append_left _ (List.mem_append_left _ (List.mem_append_left _ (List.mem_append_right _ (List.mem_append_right _ (List.mem_append_right _ (List.mem_append_right _ (List.mem_append_right _ (List.mem_append_right _ (List.mem_append_right _ (List.mem_append_right _ (List.mem_append_right _ (List.mem_append_right _ (List.mem_append_right _ (List.mem_append_right _ (List.mem_append_right _ (List.mem_append_right _ (List.mem_append_right _ (List.mem_append_right _ (List.mem_append_right _ (List.mem_append_right _ (List.mem_append_right _ (List.mem_append_right _ (List.mem_append_right _ (List.mem_append_right _ (List.mem_append_right _ (List.mem_append_right _ (List.mem_append_right _ (List.mem_append_right _ (List.mem_append_right _ (List.mem_append_right _ (List.mem_append_right _ (List.mem_append_right _ (List.mem_append_right _ (List.mem_append_right _ (List.mem_append_right _ (List.mem_append_right _ (List.mem_append_right _ (List.mem_append_right _ (List.mem_append_right _ (List.mem_append_right _ (List.mem_append_right _ (List.mem_append_right _ (List.mem_append_right _ (List.mem_append_right _ (List.mem_append_right _ (List.mem_append_left _ (h)))))))))))))))))))))))))))))))))))))))))))))))))))))))
theorem ch45 : ∀ w ∈ wsL_law_r45, w ∈ wsL_law := fun _ h => List.mem_append_left _ (List.mem_append_left _ (List.mem_append_left _ (List.mem_append_left _ (List.mem_append_left _ (List.mem_append_left _ (List.mem_append_left _ (List.mem_append_left _ (List.mem_append_left _ (List.mem_append_left _ (List.mem_append_left _ (List.mem_append_right _ (List.mem_append_right _ (List.mem_append_right _ (List.mem_append_right _ (List.mem_append_right _ (List.mem_append_right _ (List.mem_append_right _ (List.mem_append_right _ (List.mem_append_right _ (List.mem_append_right _ (List.mem_append_right _ (List.mem_append_right _ (List.mem_append_right _ (List.mem_append_right _ (List.mem_append_right _ (List.mem_append_right _ (List.mem_append_right _ (List.mem_append_right _ (List.mem_append_right _ (List.mem_append_right _ (List.mem_append_right _ (List.mem_append_right _ (List.mem_append_right _ (List.mem_append_right _ (List.mem_append_right _ (List.mem_append_right _ (List.mem_append_right _ (List.mem_append_right _ (List.mem_append_right _ (List.mem_append_right _ (List.mem_append_right _ (List.mem_append_right _ (List.mem_append_right _ (List.mem_append_right _ (List.mem_append_right _ (List.mem_append_right _ (List.mem_append_right _ (List.mem_append_right _ (List.mem_append_right _ (List.mem_append_right _ (List.mem_append_right _ (List.mem_append_right _ (List.mem_append_right _ (List.mem_append_right _ (List.mem_append_left _ (h))))))))))))))))))))))))))))))))))))))))))))))))))))))))
theorem ch46 : ∀ w ∈ wsL_law_r46, w ∈ wsL_law := fun _ h => List.mem_append_left _ (List.mem_append_left _ (List.mem_append_left _ (List.mem_append_left _ (List.mem_append_left _ (List.mem_append_left _ (List.mem_append_left _ (List.mem_append_left _ (List.mem_append_left _ (List.mem_append_left _ (List.mem_append_left _ (List.mem_append_right _ (List.mem_append_right _ (List.mem_append_right _ (List.mem_append_right _ (List.mem_append_right _ (List.mem_append_right _ (List.mem_append_right _ (List.mem_append_right _ (List.mem_append_right _ (List.mem_append_right _ (List.mem_append_right _ (List.mem_append_right _ (List.mem_append_right _ (List.mem_append_right _ (List.mem_append_right _ (List.mem_append_right _ (List.mem_append_right _ (List.mem_append_right _ (List.mem_append_right _ (List.mem_append_right _ (List.mem_append_right _ (List.mem_append_right _ (List.mem_append_right _ (List.mem_append_right _ (List.mem_append_right _ (List.mem_append_right _ (List.mem_append_right _ (List.mem_append_right _ (List.mem_append_right _ (List.mem_append_right _ (List.mem_append_right _ (List.mem_append_right _ (List.mem_append_right _ (List.mem_append_right _ (List.mem_append_right _ (List.mem_append_right _ (List.mem_append_right _ (List.mem_append_right _ (List.mem_append_right _ (List.mem_append_right _ (List.mem_append_right _ (List.mem_append_right _ (List.mem_append_right _ (List.mem_append_right _ (List.mem_append_right _ (List.mem_append_left _ (h)))))))))))))))))))))))))))))))))))))))))))))))))))))))))
theorem ch47 : ∀ w ∈ wsL_law_r47, w ∈ wsL_law := fun _ h => List.mem_append_left _ (List.mem_append_left _ (List.mem_append_left _ (List.mem_append_left _ (List.mem_append_left _ (List.mem_append_left _ (List.mem_append_left _ (List.mem_append_left _ (List.mem_append_left _ (List.mem_append_left _ (List.mem_append_left _ (List.mem_append_right _ (List.mem_append_right _ (List.mem_append_right _ (List.mem_append_right _ (List.mem_append_right _ (List.mem_append_right _ (List.mem_append_right _ (List.mem_append_right _ (List.mem_append_right _ (List.mem_append_right _ (List.mem_append_right _ (List.mem_append_right _ (List.mem_append_right _ (List.mem_append_right _ (List.mem_append_right _ (List.mem_append_right _ (List.mem_append_right _ (List.mem_append_right _ (List.mem_append_right _ (List.mem_append_right _ (List.mem_append_right _ (List.mem_append_right _ (List.mem_append_right _ (List.mem_append_right _ (List.mem_append_right _ (List.mem_append_right _ (List.mem_append_right _ (List.mem_append_right _ (List.mem_append_right _ (List.mem_append_right _ (List.mem_append_right _ (List.mem_append_right _ (List.mem_append_right _ (List.mem_append_right _ (List.mem_append_right _ (List.mem_append_right _ (List.mem_append_right _ (List.mem_append_right _ (List.mem_append_right _ (List.mem_append_right _ (List.mem_append_right _ (List.mem_append_right _ (List.mem_append_right _ (List.mem_append_right _ (List.mem_append_right _ (List.mem_append_right _ (List.mem_append_left _ (h))))))))))))))))))))))))))))))))))))))))))))))))))))))))))
theorem ch48 : ∀ w ∈ wsL_law_r48, w ∈ wsL_law := fun _ h => List.mem_append_left _ (List.mem_append_left _ (List.mem_append_left _ (List.mem_append_left _ (List.mem_append_left _ (List.mem_append_left _ (List.mem_append_left _ (List.mem_append_left _ (List.mem_append_left _ (List.mem_append_left _ (List.mem_append_left _ (List.mem_append_right _ (List.mem_append_right _ (List.mem_append_right _ (List.mem_append_right _ (List.mem_append_right _ (List.mem_append_right _ (List.mem_append_right _ (List.mem_append_right _ (List.mem_append_right _ (List.mem_append_right _ (List.mem_append_right _ (List.mem_append_right _ (List.mem_append_right _ (List.mem_append_right _ (List.mem_append_right _ (List.mem_append_right _ (List.mem_append_right _ (List.mem_append_right _ (List.mem_append_right _ (List.mem_append_right _ (List.mem_append_right _ (List.mem_append_right _ (List.mem_append_right _ (List.mem_append_right _ (List.mem_append_right _ (List.mem_append_right _ (List.mem_append_right _ (List.mem_append_right _ (List.mem_append_right _ (List.mem_append_right _ (List.mem_append_right _ (List.mem_append_right _ (List.mem_append_right _ (List.mem_append_right _ (List.mem_append_right _ (List.mem_append_right _ (List.mem_append_right _ (List.mem_append_right _ (List.mem_append_right _ (List.mem_append_right _ (List.mem_append_right _ (List.mem_append_right _ (List.mem_append_right _ (List.mem_append_right _ (List.mem_append_right _ (List.mem_append_right _ (List.mem_append_right _ (List.mem_append_left _ (h)))))))))))))))))))))))))))))))))))))))))))))))))))))))))))
theorem ch49 : ∀ w ∈ wsL_law_r49, w ∈ wsL_law := fun _ h => List.mem_append_left _ (List.mem_append_left _ (List.mem_append_left _ (List.mem_append_left _ (List.mem_append_left _ (List.mem_append_left _ (List.mem_append_left _ (List.mem_append_left _ (List.mem_append_left _ (List.mem_append_left _ (List.mem_append_left _ (List.mem_append_right _ (List.mem_append_right _ (List.mem_append_right _ (List.mem_append_right _ (List.mem_append_right _ (List.mem_append_right _ (List.mem_append_right _ (List.mem_append_right _ (List.mem_append_right _ (List.mem_append_right _ (List.mem_append_right _ (List.mem_append_right _ (List.mem_append_right _ (List.mem_append_right _ (List.mem_append_right _ (List.mem_append_right _ (List.mem_append_right _ (List.mem_append_right _ (List.mem_append_right _ (List.mem_append_right _ (List.mem_append_right _ (List.mem_append_right _ (List.mem_append_right _ (List.mem_append_right _ (List.mem_append_right _ (List.mem_append_right _ (List.mem_append_right _ (List.mem_append_right _ (List.mem_append_right _ (List.mem_append_right _ (List.mem_append_right _ (List.mem_append_right _ (List.mem_append_right _ (List.mem_append_right _ (List.mem_append_right _ (List.mem_append_right _ (List.mem_append_right _ (List.mem_append_right _ (List.mem_append_right _ (List.mem_append_right _ (List.mem_append_right _ (List.mem_append_right _ (List.mem_append_right _ (List.mem_append_right _ (List.mem_append_right _ (List.mem_append_right _ (List.mem_append_right _ (List.mem_append_right _ (List.mem_append_left _ (h))))))))))))))))))))))))))))))))))))))))))))))))))))))))))))
theorem ch50 : ∀ w ∈ wsL_law_r50, w ∈ wsL_law := fun _ h => List.mem_append_left _ (List.mem_append_left _ (List.mem_append_left _ (List.mem_append_left _ (List.mem_append_left _ (List.mem_append_left _ (List.mem_append_left _ (List.mem_append_left _ (List.mem_append_left _ (List.mem_append_left _ (List.mem_append_left _ (List.mem_append_right _ (List.mem_append_right _ (List.mem_append_right _ (List.mem_append_right _ (List.mem_append_right _ (List.mem_append_right _ (List.mem_append_right _ (List.mem_append_right _ (List.mem_append_right _ (List.mem_append_right _ (List.mem_append_right _ (List.mem_append_right _ (List.mem_append_right _ (List.mem_append_right _ (List.mem_append_right _ (List.mem_append_right _ (List.mem_append_right _ (List.mem_append_right _ (List.mem_append_right _ (List.mem_append_right _ (List.mem_append_right _ (List.mem_append_right _ (List.mem_append_right _ (List.mem_append_right _ (List.mem_append_right _ (List.mem_append_right _ (List.mem_append_right _ (List.mem_append_right _ (List.mem_append_right _ (List.mem_append_right _ (List.mem_append_right _ (List.mem_append_right _ (List.mem_append_right _ (List.mem_append_right _ (List.mem_append_right _ (List.mem_append_right _ (List.mem_append_right _ (List.mem_append_right _ (List.mem_append_right _ (List.mem_append_right _ (List.mem_append_right _ (List.mem_append_right _ (List.mem_append_right _ (List.mem_append_right _ (List.mem_append_right _ (List.mem_append_right _ (List.mem_append_right _ (List.mem_append_right _ (List.mem_append_right _ (List.mem_append_left _ (h)))))))))))))))))))))))))))))))))))))))))))))))))))))))))))))
theorem ch51 : ∀ w ∈ wsL_law_r51, w ∈ wsL_law := fun _ h => List.mem_append_left _ (List.mem_append_left _ (List.mem_append_left _ (List.mem_append_left _ (List.mem_append_left _ (List.mem_append_left _ (List.mem_append_left _ (List.mem_append_left _ (List.mem_append_left _ (List.mem_append_left _ (List.mem_append_left _ (List.mem_append_right _ (List.mem_append_right _ (List.mem_append_right _ (List.mem_append_right _ (List.mem_append_right _ (List.mem_append_right _ (List.mem_append_right _ (List.mem_append_right _ (List.mem_append_right _ (List.mem_append_right _ (List.mem_append_right _ (List.mem_append_right _ (List.mem_append_right _ (List.mem_append_right _ (List.mem_append_right _ (List.mem_append_right _ (List.mem_append_right _ (List.mem_append_right _ (List.mem_append_right _ (List.mem_append_right _ (List.mem_append_right _ (List.mem_append_right _ (List.mem_append_right _ (List.mem_append_right _ (List.mem_append_right _ (List.mem_append_right _ (List.mem_append_right _ (List.mem_append_right _ (List.mem_append_right _ (List.mem_append_right _ (List.mem_append_right _ (List.mem_append_right _ (List.mem_append_right _ (List.mem_append_right _ (List.mem_append_right _ (List.mem_append_right _ (List.mem_append_right _ (List.mem_append_right _ (List.mem_append_right _ (List.mem_append_right _ (List.mem_append_right _ (List.mem_append_right _ (List.mem_append_right _ (List.mem_append_right _ (List.mem_append_right _ (List.mem_append_right _ (List.mem_append_right _ (List.mem_append_right _ (List.mem_append_right _ (List.mem_append_right _ (List.mem_append_left _ (h))))))))))))))))))))))))))))))))))))))))))))))))))))))))))))))
theorem ch52 : ∀ w ∈ wsL_law_r52, w ∈ wsL_law := fun _ h => List.mem_append_left _ (List.mem_append_left _ (List.mem_append_left _ (List.mem_append_left _ (List.mem_append_left _ (List.mem_append_left _ (List.mem_append_left _ (List.mem_append_left _ (List.mem_append_left _ (List.mem_append_left _ (List.mem_append_left _ (List.mem_append_right _ (List.mem_append_right _ (List.mem_append_right _ (List.mem_append_right _ (List.mem_append_right _ (List.mem_append_right _ (List.mem_append_right _ (List.mem_append_right _ (List.mem_append_right _ (List.mem_append_right _ (List.mem_append_right _ (List.mem_append_right _ (List.mem_append_right _ (List.mem_append_right _ (List.mem_append_right _ (List.mem_append_right _ (List.mem_append_right _ (List.mem_append_right _ (List.mem_append_right _ (List.mem_append_right _ (List.mem_append_right _ (List.mem_append_right _ (List.mem_append_right _ (List.mem_append_right _ (List.mem_append_right _ (List.mem_append_right _ (List.mem_append_right _ (List.mem_append_right _ (List.mem_append_right _ (List.mem_append_right _ (List.mem_append_right _ (List.mem_append_right _ (List.mem_append_right _ (List.mem_append_right _ (List.mem_append_right _ (List.mem_append_right _ (List.mem_append_right _ (List.mem_append_right _ (List.mem_append_right _ (List.mem_append_right _ (List.mem_append_right _ (List.mem_append_right _ (List.mem_append_right _ (List.mem_append_right _ (List.mem_append_right _ (List.mem_append_right _ (List.mem_append_right _ (List.mem_append_right _ (List.mem_append_right _ (List.mem_append_right _ (List.mem_append_right _ (List.mem_append_left _ (h)))))))))))))))))))))))))))))))))))))))))))))))))))))))))))))))
theorem ch53 : ∀ w ∈ wsL_law_r53, w ∈ wsL_law := fun _ h => List.mem_append_left _ (List.mem_append_left _ (List.mem_append_left _ (List.mem_append_left _ (List.mem_append_left _ (List.mem_append_left _ (List.mem_append_left _ (List.mem_append_left _ (List.mem_append_left _ (List.mem_append_left _ (List.mem_append_left _ (List.mem_append_right _ (List.mem_append_right _ (List.mem_append_right _ (List.mem_append_right _ (List.mem_append_right _ (List.mem_append_right _ (List.mem_append_right _ (List.mem_append_right _ (List.mem_append_right _ (List.mem_append_right _ (List.mem_append_right _ (List.mem_append_right _ (List.mem_append_right _ (List.mem_append_right _ (List.mem_append_right _ (List.mem_append_right _ (List.mem_append_right _ (List.mem_append_right _ (List.mem_append_right _ (List.mem_append_right _ (List.mem_append_right _ (List.mem_append_right _ (List.mem_append_right _ (List.mem_append_right _ (List.mem_append_right _ (List.mem_append_right _ (List.mem_append_right _ (List.mem_append_right _ (List.mem_append_right _ (List.mem_append_right _ (List.mem_append_right _ (List.mem_append_right _ (List.mem_append_right _ (List.mem_append_right _ (List.mem_append_right _ (List.mem_append_right _ (List.mem_append_right _ (List.mem_append_right _ (List.mem_append_right _ (List.mem_append_right _ (List.mem_append_right _ (List.mem_append_right _ (List.mem_append_right _ (List.mem_append_right _ (List.mem_append_right _ (List.mem_append_right _ (List.mem_append_right _ (List.mem_append_right _ (List.mem_append_right _ (List.mem_append_right _ (List.mem_append_right _ (List.mem_append_right _ (List.mem_append_left _ (h))))))))))))))))))))))))))))))))))))))))))))))))))))))))))))))))
theorem ch54 : ∀ w ∈ wsL_law_r54, w ∈ wsL_law := fun _ h => List.mem_append_left _ (List.mem_append_left _ (List.mem_append_left _ (List.mem_append_left _ (List.mem_append_left _ (List.mem_append_left _ (List.mem_append_left _ (List.mem_append_left _ (List.mem_append_left _ (List.mem_append_left _ (List.mem_append_left _ (List.mem_append_right _ (List.mem_append_right _ (List.mem_append_right _ (List.mem_append_right _ (List.mem_append_right _ (List.mem_append_right _ (List.mem_append_right _ (List.mem_append_right _ (List.mem_append_right _ (List.mem_append_right _ (List.mem_append_right _ (List.mem_append_right _ (List.mem_append_right _ (List.mem_append_right _ (List.mem_append_right _ (List.mem_append_right _ (List.mem_append_right _ (List.mem_append_right _ (List.mem_append_right _ (List.mem_append_right _ (List.mem_append_right _ (List.mem_append_right _ (List.mem_append_right _ (List.mem_append_right _ (List.mem_append_right _ (List.mem_append_right _ (List.mem_append_right _ (List.mem_append_right _ (List.mem_append_right _ (List.mem_append_right _ (List.mem_append_right _ (List.mem_append_right _ (List.mem_append_right _ (List.mem_append_right _ (List.mem_append_right _ (List.mem_append_right _ (List.mem_append_right _ (List.mem_append_right _ (List.mem_append_right _ (List.mem_append_right _ (List.mem_append_right _ (List.mem_append_right _ (List.mem_append_right _ (List.mem_append_right _ (List.mem_append_right _ (List.mem_append_right _ (List.mem_append_right _ (List.mem_append_right _ (List.mem_append_right _ (List.mem_append_right _ (List.mem_append_right _ (List.mem_append_right _ (List.mem_append_right _ (List.mem_append_left _ (h)))))))))))))))))))))))))))))))))))))))))))))))))))))))))))))))))
theorem ch55 : ∀ w ∈ wsL_law_r55, w ∈ wsL_law := fun _ h => List.mem_append_left _ (List.mem_append_left _ (List.mem_append_left _ (List.mem_append_left _ (List.mem_append_left _ (List.mem_append_left _ (List.mem_append_left _ (List.mem_append_left _ (List.mem_append_left _ (List.mem_append_left _ (List.mem_append_left _ (List.mem_append_right _ (List.mem_append_right _ (List.mem_append_right _ (List.mem_append_right _ (List.mem_append_right _ (List.mem_append_right _ (List.mem_append_right _ (List.mem_append_right _ (List.mem_append_right _ (List.mem_append_right _ (List.mem_append_right _ (List.mem_append_right _ (List.mem_append_right _ (List.mem_append_right _ (List.mem_append_right _ (List.mem_append_right _ (List.mem_append_right _ (List.mem_append_right _ (List.mem_append_right _ (List.mem_append_right _ (List.mem_append_right _ (List.mem_append_right _ (List.mem_append_right _ (List.mem_append_right _ (List.mem_append_right _ (List.mem_append_right _ (List.mem_append_right _ (List.mem_append_right _ (List.mem_append_right _ (List.mem_append_right _ (List.mem_append_right _ (List.mem_append_right _ (List.mem_append_right _ (List.mem_append_right _ (List.mem_append_right _ (List.mem_append_right _ (List.mem_append_right _ (List.mem_append_right _ (List.mem_append_right _ (List.mem_append_right _ (List.mem_append_right _ (List.mem_append_right _ (List.mem_append_right _ (List.mem_append_right _ (List.mem_append_right _ (List.mem_append_right _ (List.mem_append_right _ (List.mem_append_right _ (List.mem_append_right _ (List.mem_append_right _ (List.mem_append_right _ (List.mem_append_right _ (List.mem_append_right _ (List.mem_append_right _ (List.mem_append_left _ (h))))))))))))))))))))))))))))))))))))))))))))))))))))))))))))))))))
theorem ch56 : ∀ w ∈ wsL_law_r56, w ∈ wsL_law := fun _ h => List.mem_append_left _ (List.mem_append_left _ (List.mem_append_left _ (List.mem_append_left _ (List.mem_append_left _ (List.mem_append_left _ (List.mem_append_left _ (List.mem_append_left _ (List.mem_append_left _ (List.mem_append_left _ (List.mem_append_left _ (List.mem_append_right _ (List.mem_append_right _ (List.mem_append_right _ (List.mem_append_right _ (List.mem_append_right _ (List.mem_append_right _ (List.mem_append_right _ (List.mem_append_right _ (List.mem_append_right _ (List.mem_append_right _ (List.mem_append_right _ (List.mem_append_right _ (List.mem_append_right _ (List.mem_append_right _ (List.mem_append_right _ (List.mem_append_right _ (List.mem_append_right _ (List.mem_append_right _ (List.mem_append_right _ (List.mem_append_right _ (List.mem_append_right _ (List.mem_append_right _ (List.mem_append_right _ (List.mem_append_right _ (List.mem_append_right _ (List.mem_append_right _ (List.mem_append_right _ (List.mem_append_right _ (List.mem_append_right _ (List.mem_append_right _ (List.mem_append_right _ (List.mem_append_right _ (List.mem_append_right _ (List.mem_append_right _ (List.mem_append_right _ (List.mem_append_right _ (List.mem_append_right _ (List.mem_append_right _ (List.mem_append_right _ (List.mem_append_right _ (List.mem_append_right _ (List.mem_append_right _ (List.mem_append_right _ (List.mem_append_right _ (List.mem_append_right _ (List.mem_append_right _ (List.mem_append_right _ (List.mem_append_right _ (List.mem_append_right _ (List.mem_append_right _ (List.mem_append_right _ (List.mem_append_right _ (List.mem_append_right _ (List.mem_append_right _ (List.mem_append_right _ (List.mem_append_left _ (h)))))))))))))))))))))))))))))))))))))))))))))))))))))))))))))))))))
theorem ch57 : ∀ w ∈ wsL_law_r57, w ∈ wsL_law := fun _ h => List.mem_append_left _ (List.mem_append_left _ (List.mem_append_left _ (List.mem_append_left _ (List.mem_append_left _ (List.mem_append_left _ (List.mem_append_left _ (List.mem_append_left _ (List.mem_append_left _ (List.mem_append_left _ (List.mem_append_left _ (List.mem_append_right _ (List.mem_append_right _ (List.mem_append_right _ (List.mem_append_right _ (List.mem_append_right _ (List.mem_append_right _ (List.mem_append_right _ (List.mem_append_right _ (List.mem_append_right _ (List.mem_append_right _ (List.mem_append_right _ (List.mem_append_right _ (List.mem_append_right _ (List.mem_append_right _ (List.mem_append_right _ (List.mem_append_right _ (List.mem_append_right _ (List.mem_append_right _ (List.mem_append_right _ (List.mem_append_right _ (List.mem_append_right _ (List.mem_append_right _ (List.mem_append_right _ (List.mem_append_right _ (List.mem_append_right _ (List.mem_append_right _ (List.mem_append_right _ (List.mem_append_right _ (List.mem_append_right _ (List.mem_append_right _ (List.mem_append_right _ (List.mem_append_right _ (List.mem_append_right _ (List.mem_append_right _ (List.mem_append_right _ (List.mem_append_right _ (List.mem_append_right _ (List.mem_append_right _ (List.mem_append_right _ (List.mem_append_right _ (List.mem_append_right _ (List.mem_append_right _ (List.mem_append_right _ (List.mem_append_right _ (List.mem_append_right _ (List.mem_append_right _ (List.mem_append_right _ (List.mem_append_right _ (List.mem_append_right _ (List.mem_append_right _ (List.mem_append_right _ (List.mem_append_right _ (List.mem_append_right _ (List.mem_append_right _ (List.mem_append_right _ (List.mem_append_right _ (List.mem_append_left _ (h))))))))))))))))))))))))))))))))))))))))))))))))))))))))))))))))))))
theorem ch58 : ∀ w ∈ wsL_law_r58, w ∈ wsL_law := fun _ h => List.mem_append_left _ (List.mem_append_left _ (List.mem_append_left _ (List.mem_append_left _ (List.mem_append_left _ (List.mem_append_left _ (List.mem_append_left _ (List.mem_append_left _ (List.mem_append_left _ (List.mem_append_left _ (List.mem_append_left _ (List.mem_append_right _ (List.mem_append_right _ (List.mem_append_right _ (List.mem_append_right _ (List.mem_append_right _ (List.mem_append_right _ (List.mem_append_right _ (List.mem_append_right _ (List.mem_append_right _ (List.mem_append_right _ (List.mem_append_right _ (List.mem_append_right _ (List.mem_append_right _ (List.mem_append_right _ (List.mem_append_right _ (List.mem_append_right _ (List.mem_append_right _ (List.mem_append_right _ (List.mem_append_right _ (List.mem_append_right _ (List.mem_append_right _ (List.mem_append_right _ (List.mem_append_right _ (List.mem_append_right _ (List.mem_append_right _ (List.mem_append_right _ (List.mem_append_right _ (List.mem_append_right _ (List.mem_append_right _ (List.mem_append_right _ (List.mem_append_right _ (List.mem_append_right _ (List.mem_append_right _ (List.mem_append_right _ (List.mem_append_right _ (List.mem_append_right _ (List.mem_append_right _ (List.mem_append_right _ (List.mem_append_right _ (List.mem_append_right _ (List.mem_append_right _ (List.mem_append_right _ (List.mem_append_right _ (List.mem_append_right _ (List.mem_append_right _ (List.mem_append_right _ (List.mem_append_right _ (List.mem_append_right _ (List.mem_append_right _ (List.mem_append_right _ (List.mem_append_right _ (List.mem_append_right _ (List.mem_append_right _ (List.mem_append_right _ (List.mem_append_right _ (List.mem_append_right _ (List.mem_append_right _ (List.mem_append_left _ (h)))))))))))))))))))))))))))))))))))))))))))))))))))))))))))))))))))))
theorem ch59 : ∀ w ∈ wsL_law_r59, w ∈ wsL_law := fun _ h => List.mem_append_left _ (List.mem_append_left _ (List.mem_append_left _ (List.mem_append_left _ (List.mem_append_left _ (List.mem_append_left _ (List.mem_append_left _ (List.mem_append_left _ (List.mem_append_left _ (List.mem_append_left _ (List.mem_append_left _ (List.mem_append_right _ (List.mem_append_right _ (List.mem_append_right _ (List.mem_append_right _ (List.mem_append_right _ (List.mem_append_right _ (List.mem_append_right _ (List.mem_append_right _ (List.mem_append_right _ (List.mem_append_right _ (List.mem_append_right _ (List.mem_append_right _ (List.mem_append_right _ (List.mem_append_right _ (List.mem_append_right _ (List.mem_append_right _ (List.mem_append_right _ (List.mem_append_right _ (List.mem_append_right _ (List.mem_append_right _ (List.mem_append_right _ (List.mem_append_right _ (List.mem_append_right _ (List.mem_append_right _ (List.mem_append_right _ (List.mem_append_right _ (List.mem_append_right _ (List.mem_append_right _ (List.mem_append_right _ (List.mem_append_right _ (List.mem_append_right _ (List.mem_append_right _ (List.mem_append_right _ (List.mem_append_right _ (List.mem_append_right _ (List.mem_append_right _ (List.mem_append_right _ (List.mem_append_right _ (List.mem_append_right _ (List.mem_append_right _ (List.mem_append_right _ (List.mem_append_right _ (List.mem_append_right _ (List.mem_append_right _ (List.mem_append_right _ (List.mem_append_right _ (List.mem_append_right _ (List.mem_append_right _ (List.mem_append_right _ (List.mem_append_right _ (List.mem_append_right _ (List.mem_append_right _ (List.mem_append_right _ (List.mem_append_right _ (List.mem_append_right _ (List.mem_append_right _ (List.mem_append_right _ (List.mem_append_right _ (List.mem_append_left _ (h))))))))))))))))))))))))))))))))))))))))))))))))))))))))))))))))))))))
theorem ch60 : ∀ w ∈ wsL_law_r60, w ∈ wsL_law := fun _ h => List.mem_append_left _ (List.mem_append_left _ (List.mem_append_left _ (List.mem_append_left _ (List.mem_append_left _ (List.mem_append_left _ (List.mem_append_left _ (List.mem_append_left _ (List.mem_append_left _ (List.mem_append_left _ (List.mem_append_left _ (List.mem_append_right _ (List.mem_append_right _ (List.mem_append_right _ (List.mem_append_right _ (List.mem_append_right _ (List.mem_append_right _ (List.mem_append_right _ (List.mem_append_right _ (List.mem_append_right _ (List.mem_append_right _ (List.mem_append_right _ (List.mem_append_right _ (List.mem_append_right _ (List.mem_append_right _ (List.mem_append_right _ (List.mem_append_right _ (List.mem_append_right _ (List.mem_append_right _ (List.mem_append_right _ (List.mem_append_right _ (List.mem_append_right _ (List.mem_append_right _ (List.mem_append_right _ (List.mem_append_right _ (List.mem_append_right _ (List.mem_append_right _ (List.mem_append_right _ (List.mem_append_right _ (List.mem_append_right _ (List.mem_append_right _ (List.mem_append_right _ (List.mem_append_right _ (List.mem_append_right _ (List.mem_append_right _ (List.mem_append_right _ (List.mem_append_right _ (List.mem_append_right _ (List.mem_append_right _ (List.mem_append_right _ (List.mem_append_right _ (List.mem_append_right _ (List.mem_append_right _ (List.mem_append_right _ (List.mem_append_right _ (List.mem_append_right _ (List.mem_append_right _ (List.mem_append_right _ (List.mem_append_right _ (List.mem_append_right _ (List.mem_append_right _ (List.mem_append_right _ (List.mem_append_right _ (List.mem_append_right _ (List.mem_append_right _ (List.mem_append_right _ (List.mem_append_right _ (List.mem_append_right _ (List.mem_append_right _ (List.mem_append_right _ (List.mem_append_left _ (h)))))))))))))))))))))))))))))))))))))))))))))))))))))))))))))))))))))))
theorem ch61 : ∀ w ∈ wsL_law_r61, w ∈ wsL_law := fun _ h => List.mem_append_left _ (List.mem_append_left _ (List.mem_append_left _ (List.mem_append_left _ (List.mem_append_left _ (List.mem_append_left _ (List.mem_append_left _ (List.mem_append_left _ (List.mem_append_left _ (List.mem_append_left _ (List.mem_append_left _ (List.mem_append_right _ (List.mem_append_right _ (List.mem_append_right _ (List.mem_append_right _ (List.mem_append_right _ (List.mem_append_right _ (List.mem_append_right _ (List.mem_append_right _ (List.mem_append_right _ (List.mem_append_right _ (List.mem_append_right _ (List.mem_append_right _ (List.mem_append_right _ (List.mem_append_right _ (List.mem_append_right _ (List.mem_append_right _ (List.mem_append_right _ (List.mem_append_right _ (List.mem_append_right _ (List.mem_append_right _ (List.mem_append_right _ (List.mem_append_right _ (List.mem_append_right _ (List.mem_append_right _ (List.mem_append_right _ (List.mem_append_right _ (List.mem_append_right _ (List.mem_append_right _ (List.mem_append_right _ (List.mem_append_right _ (List.mem_append_right _ (List.mem_append_right _ (List.mem_append_right _ (List.mem_append_right _ (List.mem_append_right _ (List.mem_append_right _ (List.mem_append_right _ (List.mem_append_right _ (List.mem_append_right _ (List.mem_append_right _ (List.mem_append_right _ (List.mem_append_right _ (List.mem_append_right _ (List.mem_append_right _ (List.mem_append_right _ (List.mem_append_right _ (List.mem_append_right _ (List.mem_append_right _ (List.mem_append_right _ (List.mem_append_right _ (List.mem_append_right _ (List.mem_append_right _ (List.mem_append_right _ (List.mem_append_right _ (List.mem_append_right _ (List.mem_append_right _ (List.mem_append_right _ (List.mem_append_right _ (List.mem_append_right _ (List.mem_append_right _ (List.mem_append_left _ (h))))))))))))))))))))))))))))))))))))))))))))))))))))))))))))))))))))))))
theorem ch62 : ∀ w ∈ wsL_law_r62, w ∈ wsL_law := fun _ h => List.mem_append_left _ (List.mem_append_left _ (List.mem_append_left _ (List.mem_append_left _ (List.mem_append_left _ (List.mem_append_left _ (List.mem_append_left _ (List.mem_append_left _ (List.mem_append_left _ (List.mem_append_left _ (List.mem_append_left _ (List.mem_append_right _ (List.mem_append_right _ (List.mem_append_right _ (List.mem_append_right _ (List.mem_append_right _ (List.mem_append_right _ (List.mem_append_right _ (List.mem_append_right _ (List.mem_append_right _ (List.mem_append_right _ (List.mem_append_right _ (List.mem_append_right _ (List.mem_append_right _ (List.mem_append_right _ (List.mem_append_right _ (List.mem_append_right _ (List.mem_append_right _ (List.mem_append_right _ (List.mem_append_right _ (List.mem_append_right _ (List.mem_append_right _ (List.mem_append_right _ (List.mem_append_right _ (List.mem_append_right _ (List.mem_append_right _ (List.mem_append_right _ (List.mem_append_right _ (List.mem_append_right _ (List.mem_append_right _ (List.mem_append_right _ (List.mem_append_right _ (List.mem_append_right _ (List.mem_append_right _ (List.mem_append_right _ (List.mem_append_right _ (List.mem_append_right _ (List.mem_append_right _ (List.mem_append_right _ (List.mem_append_right _ (List.mem_append_right _ (List.mem_append_right _ (List.mem_append_right _ (List.mem_append_right _ (List.mem_append_right _ (List.mem_append_right _ (List.mem_append_right _ (List.mem_append_right _ (List.mem_append_right _ (List.mem_append_right _ (List.mem_append_right _ (List.mem_append_right _ (List.mem_append_right _ (List.mem_append_right _ (List.mem_append_right _ (List.mem_append_right _ (List.mem_append_right _ (List.mem_append_right _ (List.mem_append_right _ (List.mem_append_right _ (List.mem_append_right _ (List.mem_append_right _ (List.mem_append_left _ (h)))))))))))))))))))))))))))))))))))))))))))))))))))))))))))))))))))))))))
theorem ch63 : ∀ w ∈ wsL_law_r63, w ∈ wsL_law := fun _ h => List.mem_append_left _ (List.mem_append_left _ (List.mem_append_left _ (List.mem_append_left _ (List.mem_append_left _ (List.mem_append_left _ (List.mem_append_left _ (List.mem_append_left _ (List.mem_append_left _ (List.mem_append_left _ (List.mem_append_left _ (List.mem_append_right _ (List.mem_append_right _ (List.mem_append_right _ (List.mem_append_right _ (List.mem_append_right _ (List.mem_append_right _ (List.mem_append_right _ (List.mem_append_right _ (List.mem_append_right _ (List.mem_append_right _ (List.mem_append_right _ (List.mem_append_right _ (List.mem_append_right _ (List.mem_append_right _ (List.mem_append_right _ (List.mem_append_right _ (List.mem_append_right _ (List.mem_append_right _ (List.mem_append_right _ (List.mem_append_right _ (List.mem_append_right _ (List.mem_append_right _ (List.mem_append_right _ (List.mem_append_right _ (List.mem_append_right _ (List.mem_append_right _ (List.mem_append_right _ (List.mem_append_right _ (List.mem_append_right _ (List.mem_append_right _ (List.mem_append_right _ (List.mem_append_right _ (List.mem_append_right _ (List.mem_append_right _ (List.mem_append_right _ (List.mem_append_right _ (List.mem_append_right _ (List.mem_append_right _ (List.mem_append_right _ (List.mem_append_right _ (List.mem_append_right _ (List.mem_append_right _ (List.mem_append_right _ (List.mem_append_right _ (List.mem_append_right _ (List.mem_append_right _ (List.mem_append_right _ (List.mem_append_right _ (List.mem_append_right _ (List.mem_append_right _ (List.mem_append_right _ (List.mem_append_right _ (List.mem_append_right _ (List.mem_append_right _ (List.mem_append_right _ (List.mem_append_right _ (List.mem_append_right _ (List.mem_append_right _ (List.mem_append_right _ (List.mem_append_right _ (List.mem_append_right _ (List.mem_append_right _ (List.mem_append_left _ (h))))))))))))))))))))))))))))))))))))))))))))))))))))))))))))))))))))))))))
theorem ch64 : ∀ w ∈ wsL_law_r64, w ∈ wsL_law := fun _ h => List.mem_append_left _ (List.mem_append_left _ (List.mem_append_left _ (List.mem_append_left _ (List.mem_append_left _ (List.mem_append_left _ (List.mem_append_left _ (List.mem_append_left _ (List.mem_append_left _ (List.mem_append_left _ (List.mem_append_left _ (List.mem_append_right _ (List.mem_append_right _ (List.mem_append_right _ (List.mem_append_right _ (List.mem_append_right _ (List.mem_append_right _ (List.mem_append_right _ (List.mem_append_right _ (List.mem_append_right _ (List.mem_append_right _ (List.mem_append_right _ (List.mem_append_right _ (List.mem_append_right _ (List.mem_append_right _ (List.mem_append_right _ (List.mem_append_right _ (List.mem_append_right _ (List.mem_append_right _ (List.mem_append_right _ (List.mem_append_right _ (List.mem_append_right _ (List.mem_append_right _ (List.mem_append_right _ (List.mem_append_right _ (List.mem_append_right _ (List.mem_append_right _ (List.mem_append_right _ (List.mem_append_right _ (List.mem_append_right _ (List.mem_append_right _ (List.mem_append_right _ (List.mem_append_right _ (List.mem_append_right _ (List.mem_append_right _ (List.mem_append_right _ (List.mem_append_right _ (List.mem_append_right _ (List.mem_append_right _ (List.mem_append_right _ (List.mem_append_right _ (List.mem_append_right _ (List.mem_append_right _ (List.mem_append_right _ (List.mem_append_right _ (List.mem_append_right _ (List.mem_append_right _ (List.mem_append_right _ (List.mem_append_right _ (List.mem_append_right _ (List.mem_append_right _ (List.mem_append_right _ (List.mem_append_right _ (List.mem_append_right _ (List.mem_append_right _ (List.mem_append_right _ (List.mem_append_right _ (List.mem_append_right _ (List.mem_append_right _ (List.mem_append_right _ (List.mem_append_right _ (List.mem_append_right _ (List.mem_append_right _ (List.mem_append_right _ (List.mem_append_left _ (h)))))))))))))))))))))))))))))))))))))))))))))))))))))))))))))))))))))))))))
theorem ch65 : ∀ w ∈ wsL_law_r65, w ∈ wsL_law := fun _ h => List.mem_append_left _ (List.mem_append_left _ (List.mem_append_left _ (List.mem_append_left _ (List.mem_append_left _ (List.mem_append_left _ (List.mem_append_left _ (List.mem_append_left _ (List.mem_append_left _ (List.mem_append_left _ (List.mem_append_left _ (List.mem_append_right _ (List.mem_append_right _ (List.mem_append_right _ (List.mem_append_right _ (List.mem_append_right _ (List.mem_append_right _ (List.mem_append_right _ (List.mem_append_right _ (List.mem_append_right _ (List.mem_append_right _ (List.mem_append_right _ (List.mem_append_right _ (List.mem_append_right _ (List.mem_append_right _ (List.mem_append_right _ (List.mem_append_right _ (List.mem_append_right _ (List.mem_append_right _ (List.mem_append_right _ (List.mem_append_right _ (List.mem_append_right _ (List.mem_append_right _ (List.mem_append_right _ (List.mem_append_right _ (List.mem_append_right _ (List.mem_append_right _ (List.mem_append_right _ (List.mem_append_right _ (List.mem_append_right _ (List.mem_append_right _ (List.mem_append_right _ (List.mem_append_right _ (List.mem_append_right _ (List.mem_append_right _ (List.mem_append_right _ (List.mem_append_right _ (List.mem_append_right _ (List.mem_append_right _ (List.mem_append_right _ (List.mem_append_right _ (List.mem_append_right _ (List.mem_append_right _ (List.mem_append_right _ (List.mem_append_right _ (List.mem_append_right _ (List.mem_append_right _ (List.mem_append_right _ (List.mem_append_right _ (List.mem_append_right _ (List.mem_append_right _ (List.mem_append_right _ (List.mem_append_right _ (List.mem_append_right _ (List.mem_append_right _ (List.mem_append_right _ (List.mem_append_right _ (List.mem_append_right _ (List.mem_append_right _ (List.mem_append_right _ (List.mem_append_right _ (List.mem_append_right _ (List.mem_append_right _ (List.mem_append_right _ (List.mem_append_right _ (List.mem_append_left _ (h))))))))))))))))))))))))))))))))))))))))))))))))))))))))))))))))))))))))))))
theorem ch66 : ∀ w ∈ wsL_law_r66, w ∈ wsL_law := fun _ h => List.mem_append_left _ (List.mem_append_left _ (List.mem_append_left _ (List.mem_append_left _ (List.mem_append_left _ (List.mem_append_left _ (List.mem_append_left _ (List.mem_append_left _ (List.mem_append_left _ (List.mem_append_left _ (List.mem_append_left _ (List.mem_append_right _ (List.mem_append_right _ (List.mem_append_right _ (List.mem_append_right _ (List.mem_append_right _ (List.mem_append_right _ (List.mem_append_right _ (List.mem_append_right _ (List.mem_append_right _ (List.mem_append_right _ (List.mem_append_right _ (List.mem_append_right _ (List.mem_append_right _ (List.mem_append_right _ (List.mem_append_right _ (List.mem_append_right _ (List.mem_append_right _ (List.mem_append_right _ (List.mem_append_right _ (List.mem_append_right _ (List.mem_append_right _ (List.mem_append_right _ (List.mem_append_right _ (List.mem_append_right _ (List.mem_append_right _ (List.mem_append_right _ (List.mem_append_right _ (List.mem_append_right _ (List.mem_append_right _ (List.mem_append_right _ (List.mem_append_right _ (List.mem_append_right _ (List.mem_append_right _ (List.mem_append_right _ (List.mem_append_right _ (List.mem_append_right _ (List.mem_append_right _ (List.mem_append_right _ (List.mem_append_right _ (List.mem_append_right _ (List.mem_append_right _ (List.mem_append_right _ (List.mem_append_right _ (List.mem_append_right _ (List.mem_append_right _ (List.mem_append_right _ (List.mem_append_right _ (List.mem_append_right _ (List.mem_append_right _ (List.mem_append_right _ (List.mem_append_right _ (List.mem_append_right _ (List.mem_append_right _ (List.mem_append_right _ (List.mem_append_right _ (List.mem_append_right _ (List.mem_append_right _ (List.mem_append_right _ (List.mem_append_right _ (List.mem_append_right _ (List.mem_append_right _ (List.mem_append_right _ (List.mem_append_right _ (List.mem_append_right _ (List.mem_append_right _ ((h)))))))))))))))))))))))))))))))))))))))))))))))))))))))))))))))))))))))))))))
theorem wk1_0 : Cond.classLink RL 7 RX8 ∈ wsL_law := ch1 _ (List.mem_of_getElem? (i := 0) rfl)
theorem wk1_1 : Cond.instantiable RX8 13 ∈ wsL_law := ch1 _ (List.mem_of_getElem? (i := 1) rfl)
theorem wk1_2 : Cond.initialized RX8 ∈ wsL_law := ch1 _ (List.mem_of_getElem? (i := 2) rfl)
theorem wk1_3 : Cond.classLink RL 10 RX9 ∈ wsL_law := ch1 _ (List.mem_of_getElem? (i := 3) rfl)
theorem wk1_4 : Cond.instantiable RX9 36 ∈ wsL_law := ch1 _ (List.mem_of_getElem? (i := 4) rfl)
theorem wk1_5 : Cond.initialized RX9 ∈ wsL_law := ch1 _ (List.mem_of_getElem? (i := 5) rfl)
theorem wk1_6 : Cond.methodLink RL 9 yX8_init ∈ wsL_law := ch1 _ (List.mem_of_getElem? (i := 6) rfl)
theorem wk1_7 : Cond.instanceMethod yX8_init ∈ wsL_law := ch1 _ (List.mem_of_getElem? (i := 7) rfl)
theorem wk1_8 : Cond.code yX8_init cX8_init 2 none ∈ wsL_law := ch1 _ (List.mem_of_getElem? (i := 8) rfl)
theorem wk1_9 : Cond.methodLink RX8 3 objectInit ∈ wsL_law := ch1 _ (List.mem_of_getElem? (i := 9) rfl)
theorem wk1_10 : Cond.instanceMethod objectInit ∈ wsL_law := ch1 _ (List.mem_of_getElem? (i := 10) rfl)
theorem wk1_11 : Cond.code objectInit ⟨#[0xb1]⟩ 1 none ∈ wsL_law := ch1 _ (List.mem_of_getElem? (i := 11) rfl)
theorem wk1_12 : Cond.arrayClass .int ∈ wsL_law := ch1 _ (List.mem_of_getElem? (i := 12) rfl)
theorem wk1_13 : Cond.fieldLink RX8 9 "ShutDays" "tape" "[I" ∈ wsL_law := ch1 _ (List.mem_of_getElem? (i := 13) rfl)
theorem wk1_14 : Cond.classLink RX8 13 RX4 ∈ wsL_law := ch1 _ (List.mem_of_getElem? (i := 14) rfl)
theorem wk1_15 : Cond.instantiable RX4 9 ∈ wsL_law := ch1 _ (List.mem_of_getElem? (i := 15) rfl)
theorem wk1_16 : Cond.initialized RX4 ∈ wsL_law := ch1 _ (List.mem_of_getElem? (i := 16) rfl)
theorem wk1_17 : Cond.fieldLink RX8 16 "ShutDays" "reader" "LShutDays$Reader;" ∈ wsL_law := ch1 _ (List.mem_of_getElem? (i := 17) rfl)
theorem wk1_18 : Cond.classLink RX8 20 RX5 ∈ wsL_law := ch1 _ (List.mem_of_getElem? (i := 18) rfl)
theorem wk1_19 : Cond.fieldLink RX8 22 "ShutDays" "texts" "[LShutDays$Text;" ∈ wsL_law := ch1 _ (List.mem_of_getElem? (i := 19) rfl)
theorem wk1_20 : Cond.instantiable RX5 6 ∈ wsL_law := ch1 _ (List.mem_of_getElem? (i := 20) rfl)
theorem wk1_21 : Cond.initialized RX5 ∈ wsL_law := ch1 _ (List.mem_of_getElem? (i := 21) rfl)
theorem wk1_22 : Cond.fieldLink RX8 27 "ShutDays" "lawless" "LShutDays$Text;" ∈ wsL_law := ch1 _ (List.mem_of_getElem? (i := 22) rfl)
theorem wk1_23 : Cond.classLink RX8 31 RX3 ∈ wsL_law := ch1 _ (List.mem_of_getElem? (i := 23) rfl)
theorem wk2_0 : Cond.instantiable RX3 3 ∈ wsL_law := ch2 _ (List.mem_of_getElem? (i := 0) rfl)
theorem wk2_1 : Cond.initialized RX3 ∈ wsL_law := ch2 _ (List.mem_of_getElem? (i := 1) rfl)
theorem wk2_2 : Cond.fieldLink RX8 34 "ShutDays" "laws" "LShutDays$Laws;" ∈ wsL_law := ch2 _ (List.mem_of_getElem? (i := 2) rfl)
theorem wk2_3 : Cond.classLink RX8 38 RX7 ∈ wsL_law := ch2 _ (List.mem_of_getElem? (i := 3) rfl)
theorem wk2_4 : Cond.instantiable RX7 13 ∈ wsL_law := ch2 _ (List.mem_of_getElem? (i := 4) rfl)
theorem wk2_5 : Cond.initialized RX7 ∈ wsL_law := ch2 _ (List.mem_of_getElem? (i := 5) rfl)
theorem wk2_6 : Cond.fieldLink RX8 41 "ShutDays" "now" "LShutDays$World;" ∈ wsL_law := ch2 _ (List.mem_of_getElem? (i := 6) rfl)
theorem wk2_7 : Cond.fieldLink RX8 45 "ShutDays" "image" "LShutDays$World;" ∈ wsL_law := ch2 _ (List.mem_of_getElem? (i := 7) rfl)
theorem wk2_8 : Cond.classLink RX8 48 RX6 ∈ wsL_law := ch2 _ (List.mem_of_getElem? (i := 8) rfl)
theorem wk2_9 : Cond.instantiable RX6 9 ∈ wsL_law := ch2 _ (List.mem_of_getElem? (i := 9) rfl)
theorem wk2_10 : Cond.initialized RX6 ∈ wsL_law := ch2 _ (List.mem_of_getElem? (i := 10) rfl)
theorem wk2_11 : Cond.fieldLink RX8 51 "ShutDays" "trial" "LShutDays$Town;" ∈ wsL_law := ch2 _ (List.mem_of_getElem? (i := 11) rfl)
theorem wk2_12 : Cond.classLink RX8 55 RX2 ∈ wsL_law := ch2 _ (List.mem_of_getElem? (i := 12) rfl)
theorem wk2_13 : Cond.instantiable RX2 5 ∈ wsL_law := ch2 _ (List.mem_of_getElem? (i := 13) rfl)
theorem wk2_14 : Cond.initialized RX2 ∈ wsL_law := ch2 _ (List.mem_of_getElem? (i := 14) rfl)
theorem wk2_15 : Cond.fieldLink RX8 58 "ShutDays" "guess" "LShutDays$Guess;" ∈ wsL_law := ch2 _ (List.mem_of_getElem? (i := 15) rfl)
theorem wk2_16 : Cond.classLink RX8 62 RX1 ∈ wsL_law := ch2 _ (List.mem_of_getElem? (i := 16) rfl)
theorem wk2_17 : Cond.instantiable RX1 2 ∈ wsL_law := ch2 _ (List.mem_of_getElem? (i := 17) rfl)
theorem wk2_18 : Cond.initialized RX1 ∈ wsL_law := ch2 _ (List.mem_of_getElem? (i := 18) rfl)
theorem wk2_19 : Cond.fieldLink RX8 65 "ShutDays" "diary" "LShutDays$Diary;" ∈ wsL_law := ch2 _ (List.mem_of_getElem? (i := 19) rfl)
theorem wk2_20 : Cond.classLink RX8 69 RX0 ∈ wsL_law := ch2 _ (List.mem_of_getElem? (i := 20) rfl)
theorem wk2_21 : Cond.instantiable RX0 3 ∈ wsL_law := ch2 _ (List.mem_of_getElem? (i := 21) rfl)
theorem wk2_22 : Cond.initialized RX0 ∈ wsL_law := ch2 _ (List.mem_of_getElem? (i := 22) rfl)
theorem wk2_23 : Cond.fieldLink RX8 72 "ShutDays" "couples" "LShutDays$Couples;" ∈ wsL_law := ch2 _ (List.mem_of_getElem? (i := 23) rfl)
theorem wk3_0 : Cond.instanceMethod yX4_init ∈ wsL_law := ch3 _ (List.mem_of_getElem? (i := 0) rfl)
theorem wk3_1 : Cond.code yX4_init cX4_init 1 none ∈ wsL_law := ch3 _ (List.mem_of_getElem? (i := 1) rfl)
theorem wk3_2 : Cond.methodLink RX4 3 objectInit ∈ wsL_law := ch3 _ (List.mem_of_getElem? (i := 2) rfl)
theorem wk3_3 : Cond.classLink RX4 9 RX5 ∈ wsL_law := ch3 _ (List.mem_of_getElem? (i := 3) rfl)
theorem wk3_4 : Cond.fieldLink RX4 12 "ShutDays$Reader" "draft" "LShutDays$Text;" ∈ wsL_law := ch3 _ (List.mem_of_getElem? (i := 4) rfl)
theorem wk3_5 : Cond.fieldLink RX4 18 "ShutDays$Reader" "place" "I" ∈ wsL_law := ch3 _ (List.mem_of_getElem? (i := 5) rfl)
theorem wk3_6 : Cond.fieldLink RX4 22 "ShutDays$Reader" "kinds" "[I" ∈ wsL_law := ch3 _ (List.mem_of_getElem? (i := 6) rfl)
theorem wk3_7 : Cond.fieldLink RX4 26 "ShutDays$Reader" "places" "[I" ∈ wsL_law := ch3 _ (List.mem_of_getElem? (i := 7) rfl)
theorem wk3_8 : Cond.fieldLink RX4 29 "ShutDays$Reader" "values" "[I" ∈ wsL_law := ch3 _ (List.mem_of_getElem? (i := 8) rfl)
theorem wk3_9 : Cond.instanceMethod yX5_init ∈ wsL_law := ch3 _ (List.mem_of_getElem? (i := 9) rfl)
theorem wk3_10 : Cond.code yX5_init cX5_init 1 none ∈ wsL_law := ch3 _ (List.mem_of_getElem? (i := 10) rfl)
theorem wk3_11 : Cond.methodLink RX5 3 objectInit ∈ wsL_law := ch3 _ (List.mem_of_getElem? (i := 11) rfl)
theorem wk3_12 : Cond.fieldLink RX5 9 "ShutDays$Text" "code" "[I" ∈ wsL_law := ch3 _ (List.mem_of_getElem? (i := 12) rfl)
theorem wk3_13 : Cond.fieldLink RX5 15 "ShutDays$Text" "lawFrom" "[I" ∈ wsL_law := ch3 _ (List.mem_of_getElem? (i := 13) rfl)
theorem wk3_14 : Cond.fieldLink RX5 18 "ShutDays$Text" "lawTo" "[I" ∈ wsL_law := ch3 _ (List.mem_of_getElem? (i := 14) rfl)
theorem wk3_15 : Cond.fieldLink RX5 21 "ShutDays$Text" "rows" "[I" ∈ wsL_law := ch3 _ (List.mem_of_getElem? (i := 15) rfl)
theorem wk3_16 : Cond.instanceMethod yX3_init ∈ wsL_law := ch3 _ (List.mem_of_getElem? (i := 16) rfl)
theorem wk3_17 : Cond.code yX3_init cX3_init 1 none ∈ wsL_law := ch3 _ (List.mem_of_getElem? (i := 17) rfl)
theorem wk3_18 : Cond.methodLink RX3 3 objectInit ∈ wsL_law := ch3 _ (List.mem_of_getElem? (i := 18) rfl)
theorem wk3_19 : Cond.fieldLink RX3 9 "ShutDays$Laws" "names" "[I" ∈ wsL_law := ch3 _ (List.mem_of_getElem? (i := 19) rfl)
theorem wk3_20 : Cond.fieldLink RX3 15 "ShutDays$Laws" "stack" "[I" ∈ wsL_law := ch3 _ (List.mem_of_getElem? (i := 20) rfl)
theorem wk3_21 : Cond.methodLink RX8 40 yX7_init ∈ wsL_law := ch3 _ (List.mem_of_getElem? (i := 21) rfl)
theorem wk3_22 : Cond.instanceMethod yX7_init ∈ wsL_law := ch3 _ (List.mem_of_getElem? (i := 22) rfl)
theorem wk3_23 : Cond.code yX7_init cX7_init 2 none ∈ wsL_law := ch3 _ (List.mem_of_getElem? (i := 23) rfl)
theorem wk4_0 : Cond.methodLink RX7 3 objectInit ∈ wsL_law := ch4 _ (List.mem_of_getElem? (i := 0) rfl)
theorem wk4_1 : Cond.classLink RX7 9 RX6 ∈ wsL_law := ch4 _ (List.mem_of_getElem? (i := 1) rfl)
theorem wk4_2 : Cond.fieldLink RX7 12 "ShutDays$World" "town" "LShutDays$Town;" ∈ wsL_law := ch4 _ (List.mem_of_getElem? (i := 2) rfl)
theorem wk4_3 : Cond.fieldLink RX7 18 "ShutDays$World" "steps" "[LShutDays$Town;" ∈ wsL_law := ch4 _ (List.mem_of_getElem? (i := 3) rfl)
theorem wk4_4 : Cond.fieldLink RX7 22 "ShutDays$World" "ruling" "I" ∈ wsL_law := ch4 _ (List.mem_of_getElem? (i := 4) rfl)
theorem wk4_5 : Cond.fieldLink RX7 26 "ShutDays$World" "seenHouse" "[I" ∈ wsL_law := ch4 _ (List.mem_of_getElem? (i := 5) rfl)
theorem wk4_6 : Cond.fieldLink RX7 30 "ShutDays$World" "seenDate" "[I" ∈ wsL_law := ch4 _ (List.mem_of_getElem? (i := 6) rfl)
theorem wk4_7 : Cond.fieldLink RX7 33 "ShutDays$World" "seenShut" "[I" ∈ wsL_law := ch4 _ (List.mem_of_getElem? (i := 7) rfl)
theorem wk4_8 : Cond.fieldLink RX7 36 "ShutDays$World" "gossipFrom" "[I" ∈ wsL_law := ch4 _ (List.mem_of_getElem? (i := 8) rfl)
theorem wk4_9 : Cond.fieldLink RX7 39 "ShutDays$World" "gossipTo" "[I" ∈ wsL_law := ch4 _ (List.mem_of_getElem? (i := 9) rfl)
theorem wk4_10 : Cond.instanceMethod yX6_init ∈ wsL_law := ch4 _ (List.mem_of_getElem? (i := 10) rfl)
theorem wk4_11 : Cond.code yX6_init cX6_init 1 none ∈ wsL_law := ch4 _ (List.mem_of_getElem? (i := 11) rfl)
theorem wk4_12 : Cond.methodLink RX6 3 objectInit ∈ wsL_law := ch4 _ (List.mem_of_getElem? (i := 12) rfl)
theorem wk4_13 : Cond.fieldLink RX6 9 "ShutDays$Town" "shut" "[I" ∈ wsL_law := ch4 _ (List.mem_of_getElem? (i := 13) rfl)
theorem wk4_14 : Cond.fieldLink RX6 15 "ShutDays$Town" "purse" "[I" ∈ wsL_law := ch4 _ (List.mem_of_getElem? (i := 14) rfl)
theorem wk4_15 : Cond.fieldLink RX6 18 "ShutDays$Town" "friends" "[I" ∈ wsL_law := ch4 _ (List.mem_of_getElem? (i := 15) rfl)
theorem wk4_16 : Cond.fieldLink RX6 21 "ShutDays$Town" "knocked" "[I" ∈ wsL_law := ch4 _ (List.mem_of_getElem? (i := 16) rfl)
theorem wk4_17 : Cond.fieldLink RX6 24 "ShutDays$Town" "x" "I" ∈ wsL_law := ch4 _ (List.mem_of_getElem? (i := 17) rfl)
theorem wk4_18 : Cond.instanceMethod yX2_init ∈ wsL_law := ch4 _ (List.mem_of_getElem? (i := 18) rfl)
theorem wk4_19 : Cond.code yX2_init cX2_init 1 none ∈ wsL_law := ch4 _ (List.mem_of_getElem? (i := 19) rfl)
theorem wk4_20 : Cond.methodLink RX2 3 objectInit ∈ wsL_law := ch4 _ (List.mem_of_getElem? (i := 20) rfl)
theorem wk4_21 : Cond.instanceMethod yX1_init ∈ wsL_law := ch4 _ (List.mem_of_getElem? (i := 21) rfl)
theorem wk4_22 : Cond.code yX1_init cX1_init 1 none ∈ wsL_law := ch4 _ (List.mem_of_getElem? (i := 22) rfl)
theorem wk4_23 : Cond.methodLink RX1 3 objectInit ∈ wsL_law := ch4 _ (List.mem_of_getElem? (i := 23) rfl)
theorem wk5_0 : Cond.fieldLink RX1 9 "ShutDays$Diary" "dayOf" "[I" ∈ wsL_law := ch5 _ (List.mem_of_getElem? (i := 0) rfl)
theorem wk5_1 : Cond.instanceMethod yX0_init ∈ wsL_law := ch5 _ (List.mem_of_getElem? (i := 1) rfl)
theorem wk5_2 : Cond.code yX0_init cX0_init 1 none ∈ wsL_law := ch5 _ (List.mem_of_getElem? (i := 2) rfl)
theorem wk5_3 : Cond.methodLink RX0 3 objectInit ∈ wsL_law := ch5 _ (List.mem_of_getElem? (i := 3) rfl)
theorem wk5_4 : Cond.fieldLink RX0 9 "ShutDays$Couples" "best" "[I" ∈ wsL_law := ch5 _ (List.mem_of_getElem? (i := 4) rfl)
theorem wk5_5 : Cond.fieldLink RX0 15 "ShutDays$Couples" "with" "[I" ∈ wsL_law := ch5 _ (List.mem_of_getElem? (i := 5) rfl)
theorem wk5_6 : Cond.methodLink RL 12 yX9_init ∈ wsL_law := ch5 _ (List.mem_of_getElem? (i := 6) rfl)
theorem wk5_7 : Cond.instanceMethod yX9_init ∈ wsL_law := ch5 _ (List.mem_of_getElem? (i := 7) rfl)
theorem wk5_8 : Cond.code yX9_init cX9_init 1 none ∈ wsL_law := ch5 _ (List.mem_of_getElem? (i := 8) rfl)
theorem wk5_9 : Cond.methodLink RX9 1 objectInit ∈ wsL_law := ch5 _ (List.mem_of_getElem? (i := 9) rfl)
theorem wk5_10 : Cond.fieldLink RX9 7 "ShutDaysModel" "a" "[I" ∈ wsL_law := ch5 _ (List.mem_of_getElem? (i := 10) rfl)
theorem wk5_11 : Cond.fieldLink RX9 13 "ShutDaysModel" "image" "[I" ∈ wsL_law := ch5 _ (List.mem_of_getElem? (i := 11) rfl)
theorem wk5_12 : Cond.fieldLink RX9 16 "ShutDaysModel" "texts" "[I" ∈ wsL_law := ch5 _ (List.mem_of_getElem? (i := 12) rfl)
theorem wk5_13 : Cond.fieldLink RX9 19 "ShutDaysModel" "tape" "[I" ∈ wsL_law := ch5 _ (List.mem_of_getElem? (i := 13) rfl)
theorem wk5_14 : Cond.fieldLink RX9 22 "ShutDaysModel" "fault" "I" ∈ wsL_law := ch5 _ (List.mem_of_getElem? (i := 14) rfl)
theorem wk5_15 : Cond.fieldLink RX9 26 "ShutDaysModel" "faultPlace" "I" ∈ wsL_law := ch5 _ (List.mem_of_getElem? (i := 15) rfl)
theorem wk5_16 : Cond.fieldLink RX9 29 "ShutDaysModel" "pile" "[I" ∈ wsL_law := ch5 _ (List.mem_of_getElem? (i := 16) rfl)
theorem wk5_17 : Cond.fieldLink RX9 32 "ShutDaysModel" "named" "[I" ∈ wsL_law := ch5 _ (List.mem_of_getElem? (i := 17) rfl)
theorem wk5_18 : Cond.arrayClass .long ∈ wsL_law := ch5 _ (List.mem_of_getElem? (i := 18) rfl)
theorem wk5_19 : Cond.fieldLink RX9 35 "ShutDaysModel" "values" "[J" ∈ wsL_law := ch5 _ (List.mem_of_getElem? (i := 19) rfl)
theorem wk5_20 : Cond.arrayClass .boolean ∈ wsL_law := ch5 _ (List.mem_of_getElem? (i := 20) rfl)
theorem wk5_21 : Cond.fieldLink RX9 39 "ShutDaysModel" "truth" "[Z" ∈ wsL_law := ch5 _ (List.mem_of_getElem? (i := 21) rfl)
theorem wk5_22 : Cond.fieldLink RX9 43 "ShutDaysModel" "aside" "[I" ∈ wsL_law := ch5 _ (List.mem_of_getElem? (i := 22) rfl)
theorem wk5_23 : Cond.fieldLink RX9 46 "ShutDaysModel" "with" "[I" ∈ wsL_law := ch5 _ (List.mem_of_getElem? (i := 23) rfl)
theorem wk6_0 : Cond.fieldLink RX9 49 "ShutDaysModel" "member" "[I" ∈ wsL_law := ch6 _ (List.mem_of_getElem? (i := 0) rfl)
theorem wk6_1 : Cond.fieldLink RX9 52 "ShutDaysModel" "dayOf" "[I" ∈ wsL_law := ch6 _ (List.mem_of_getElem? (i := 1) rfl)
theorem wk6_2 : Cond.fieldLink RX9 55 "ShutDaysModel" "mate" "[I" ∈ wsL_law := ch6 _ (List.mem_of_getElem? (i := 2) rfl)
theorem wk6_3 : Cond.fieldLink RX9 58 "ShutDaysModel" "bestMate" "[I" ∈ wsL_law := ch6 _ (List.mem_of_getElem? (i := 3) rfl)
theorem wk6_4 : Cond.methodLink RX9 61 yX9_copy ∈ wsL_law := ch6 _ (List.mem_of_getElem? (i := 4) rfl)
theorem wk6_5 : Cond.static yX9_copy ∈ wsL_law := ch6 _ (List.mem_of_getElem? (i := 5) rfl)
theorem wk6_6 : Cond.code yX9_copy cX9_copy 3 none ∈ wsL_law := ch6 _ (List.mem_of_getElem? (i := 6) rfl)
theorem wk6_7 : Cond.methodLink RL 13 yX8_house ∈ wsL_law := ch6 _ (List.mem_of_getElem? (i := 7) rfl)
theorem wk6_8 : Cond.instanceMethod yX8_house ∈ wsL_law := ch6 _ (List.mem_of_getElem? (i := 8) rfl)
theorem wk6_9 : Cond.selects RX8 yX8_house yX8_house ∈ wsL_law := ch6 _ (List.mem_of_getElem? (i := 9) rfl)
theorem wk6_10 : Cond.code yX8_house cX8_house 6 (some .int) ∈ wsL_law := ch6 _ (List.mem_of_getElem? (i := 10) rfl)
theorem wk6_11 : Cond.fieldLink RX8 88 "ShutDays$World" "town" "LShutDays$Town;" ∈ wsL_law := ch6 _ (List.mem_of_getElem? (i := 11) rfl)
theorem wk6_12 : Cond.methodLink RX8 76 yX8_isDateOrNone ∈ wsL_law := ch6 _ (List.mem_of_getElem? (i := 12) rfl)
theorem wk6_13 : Cond.static yX8_isDateOrNone ∈ wsL_law := ch6 _ (List.mem_of_getElem? (i := 13) rfl)
theorem wk6_14 : Cond.code yX8_isDateOrNone cX8_isDateOrNone 1 (some .boolean) ∈ wsL_law := ch6 _ (List.mem_of_getElem? (i := 14) rfl)
theorem wk6_15 : Cond.methodLink RX8 257 yX8_isDate ∈ wsL_law := ch6 _ (List.mem_of_getElem? (i := 15) rfl)
theorem wk6_16 : Cond.static yX8_isDate ∈ wsL_law := ch6 _ (List.mem_of_getElem? (i := 16) rfl)
theorem wk6_17 : Cond.code yX8_isDate cX8_isDate 1 (some .boolean) ∈ wsL_law := ch6 _ (List.mem_of_getElem? (i := 17) rfl)
theorem wk6_18 : Cond.methodLink RX8 84 yX8_isWithin ∈ wsL_law := ch6 _ (List.mem_of_getElem? (i := 18) rfl)
theorem wk6_19 : Cond.static yX8_isWithin ∈ wsL_law := ch6 _ (List.mem_of_getElem? (i := 19) rfl)
theorem wk6_20 : Cond.code yX8_isWithin cX8_isWithin 3 (some .boolean) ∈ wsL_law := ch6 _ (List.mem_of_getElem? (i := 20) rfl)
theorem wk6_21 : Cond.methodLink RX8 80 yX8_isSameDate ∈ wsL_law := ch6 _ (List.mem_of_getElem? (i := 21) rfl)
theorem wk6_22 : Cond.static yX8_isSameDate ∈ wsL_law := ch6 _ (List.mem_of_getElem? (i := 22) rfl)
theorem wk6_23 : Cond.code yX8_isSameDate cX8_isSameDate 2 (some .boolean) ∈ wsL_law := ch6 _ (List.mem_of_getElem? (i := 23) rfl)
theorem wk7_0 : Cond.methodLink RX8 91 yX8_bitOf ∈ wsL_law := ch7 _ (List.mem_of_getElem? (i := 0) rfl)
theorem wk7_1 : Cond.static yX8_bitOf ∈ wsL_law := ch7 _ (List.mem_of_getElem? (i := 1) rfl)
theorem wk7_2 : Cond.code yX8_bitOf cX8_bitOf 1 (some .int) ∈ wsL_law := ch7 _ (List.mem_of_getElem? (i := 2) rfl)
theorem wk7_3 : Cond.methodLink RX8 95 yX6_settle ∈ wsL_law := ch7 _ (List.mem_of_getElem? (i := 3) rfl)
theorem wk7_4 : Cond.instanceMethod yX6_settle ∈ wsL_law := ch7 _ (List.mem_of_getElem? (i := 4) rfl)
theorem wk7_5 : Cond.selects RX6 yX6_settle yX6_settle ∈ wsL_law := ch7 _ (List.mem_of_getElem? (i := 5) rfl)
theorem wk7_6 : Cond.code yX6_settle cX6_settle 4 (some .int) ∈ wsL_law := ch7 _ (List.mem_of_getElem? (i := 6) rfl)
theorem wk7_7 : Cond.fieldLink RX6 32 "ShutDays$Town" "houses" "I" ∈ wsL_law := ch7 _ (List.mem_of_getElem? (i := 7) rfl)
theorem wk7_8 : Cond.methodLink RL 17 yX9_house ∈ wsL_law := ch7 _ (List.mem_of_getElem? (i := 8) rfl)
theorem wk7_9 : Cond.instanceMethod yX9_house ∈ wsL_law := ch7 _ (List.mem_of_getElem? (i := 9) rfl)
theorem wk7_10 : Cond.selects RX9 yX9_house yX9_house ∈ wsL_law := ch7 _ (List.mem_of_getElem? (i := 10) rfl)
theorem wk7_11 : Cond.code yX9_house cX9_house 7 (some .int) ∈ wsL_law := ch7 _ (List.mem_of_getElem? (i := 11) rfl)
theorem wk7_12 : Cond.methodLink RX9 65 yX9_isIn ∈ wsL_law := ch7 _ (List.mem_of_getElem? (i := 12) rfl)
theorem wk7_13 : Cond.static yX9_isIn ∈ wsL_law := ch7 _ (List.mem_of_getElem? (i := 13) rfl)
theorem wk7_14 : Cond.code yX9_isIn cX9_isIn 3 (some .boolean) ∈ wsL_law := ch7 _ (List.mem_of_getElem? (i := 14) rfl)
theorem wk7_15 : Cond.methodLink RX9 84 yX9_put ∈ wsL_law := ch7 _ (List.mem_of_getElem? (i := 15) rfl)
theorem wk7_16 : Cond.instanceMethod yX9_put ∈ wsL_law := ch7 _ (List.mem_of_getElem? (i := 16) rfl)
theorem wk7_17 : Cond.selects RX9 yX9_put yX9_put ∈ wsL_law := ch7 _ (List.mem_of_getElem? (i := 17) rfl)
theorem wk7_18 : Cond.code yX9_put cX9_put 4 none ∈ wsL_law := ch7 _ (List.mem_of_getElem? (i := 18) rfl)
theorem wk7_19 : Cond.methodLink RX9 88 yX9_begin ∈ wsL_law := ch7 _ (List.mem_of_getElem? (i := 19) rfl)
theorem wk7_20 : Cond.instanceMethod yX9_begin ∈ wsL_law := ch7 _ (List.mem_of_getElem? (i := 20) rfl)
theorem wk7_21 : Cond.selects RX9 yX9_begin yX9_begin ∈ wsL_law := ch7 _ (List.mem_of_getElem? (i := 21) rfl)
theorem wk7_22 : Cond.code yX9_begin cX9_begin 3 none ∈ wsL_law := ch7 _ (List.mem_of_getElem? (i := 22) rfl)
theorem wk7_23 : Cond.methodLink RX9 73 yX9_get ∈ wsL_law := ch7 _ (List.mem_of_getElem? (i := 23) rfl)
theorem wk8_0 : Cond.instanceMethod yX9_get ∈ wsL_law := ch8 _ (List.mem_of_getElem? (i := 0) rfl)
theorem wk8_1 : Cond.selects RX9 yX9_get yX9_get ∈ wsL_law := ch8 _ (List.mem_of_getElem? (i := 1) rfl)
theorem wk8_2 : Cond.code yX9_get cX9_get 3 (some .int) ∈ wsL_law := ch8 _ (List.mem_of_getElem? (i := 2) rfl)
theorem wk8_3 : Cond.methodLink RL 18 yX8_feed ∈ wsL_law := ch8 _ (List.mem_of_getElem? (i := 3) rfl)
theorem wk8_4 : Cond.instanceMethod yX8_feed ∈ wsL_law := ch8 _ (List.mem_of_getElem? (i := 4) rfl)
theorem wk8_5 : Cond.selects RX8 yX8_feed yX8_feed ∈ wsL_law := ch8 _ (List.mem_of_getElem? (i := 5) rfl)
theorem wk8_6 : Cond.code yX8_feed cX8_feed 6 (some .int) ∈ wsL_law := ch8 _ (List.mem_of_getElem? (i := 6) rfl)
theorem wk8_7 : Cond.fieldLink RX8 99 "ShutDays" "tapeLength" "I" ∈ wsL_law := ch8 _ (List.mem_of_getElem? (i := 7) rfl)
theorem wk8_8 : Cond.methodLink RX8 103 yX8_appendBytes ∈ wsL_law := ch8 _ (List.mem_of_getElem? (i := 8) rfl)
theorem wk8_9 : Cond.instanceMethod yX8_appendBytes ∈ wsL_law := ch8 _ (List.mem_of_getElem? (i := 9) rfl)
theorem wk8_10 : Cond.selects RX8 yX8_appendBytes yX8_appendBytes ∈ wsL_law := ch8 _ (List.mem_of_getElem? (i := 10) rfl)
theorem wk8_11 : Cond.code yX8_appendBytes cX8_appendBytes 3 none ∈ wsL_law := ch8 _ (List.mem_of_getElem? (i := 11) rfl)
theorem wk8_12 : Cond.methodLink RL 21 yX9_feed ∈ wsL_law := ch8 _ (List.mem_of_getElem? (i := 12) rfl)
theorem wk8_13 : Cond.instanceMethod yX9_feed ∈ wsL_law := ch8 _ (List.mem_of_getElem? (i := 13) rfl)
theorem wk8_14 : Cond.selects RX9 yX9_feed yX9_feed ∈ wsL_law := ch8 _ (List.mem_of_getElem? (i := 14) rfl)
theorem wk8_15 : Cond.code yX9_feed cX9_feed 6 (some .int) ∈ wsL_law := ch8 _ (List.mem_of_getElem? (i := 15) rfl)
theorem wk8_16 : Cond.fieldLink RX9 92 "ShutDaysModel" "taped" "I" ∈ wsL_law := ch8 _ (List.mem_of_getElem? (i := 16) rfl)
theorem wk8_17 : Cond.methodLink RX9 95 yX9_four ∈ wsL_law := ch8 _ (List.mem_of_getElem? (i := 17) rfl)
theorem wk8_18 : Cond.instanceMethod yX9_four ∈ wsL_law := ch8 _ (List.mem_of_getElem? (i := 18) rfl)
theorem wk8_19 : Cond.selects RX9 yX9_four yX9_four ∈ wsL_law := ch8 _ (List.mem_of_getElem? (i := 19) rfl)
theorem wk8_20 : Cond.code yX9_four cX9_four 3 none ∈ wsL_law := ch8 _ (List.mem_of_getElem? (i := 20) rfl)
theorem wk8_21 : Cond.methodLink RL 22 yX8_end ∈ wsL_law := ch8 _ (List.mem_of_getElem? (i := 21) rfl)
theorem wk8_22 : Cond.instanceMethod yX8_end ∈ wsL_law := ch8 _ (List.mem_of_getElem? (i := 22) rfl)
theorem wk8_23 : Cond.selects RX8 yX8_end yX8_end ∈ wsL_law := ch8 _ (List.mem_of_getElem? (i := 23) rfl)
theorem wk9_0 : Cond.code yX8_end cX8_end 2 (some .int) ∈ wsL_law := ch9 _ (List.mem_of_getElem? (i := 0) rfl)
theorem wk9_1 : Cond.methodLink RL 26 yX9_end ∈ wsL_law := ch9 _ (List.mem_of_getElem? (i := 1) rfl)
theorem wk9_2 : Cond.instanceMethod yX9_end ∈ wsL_law := ch9 _ (List.mem_of_getElem? (i := 2) rfl)
theorem wk9_3 : Cond.selects RX9 yX9_end yX9_end ∈ wsL_law := ch9 _ (List.mem_of_getElem? (i := 3) rfl)
theorem wk9_4 : Cond.code yX9_end cX9_end 2 (some .int) ∈ wsL_law := ch9 _ (List.mem_of_getElem? (i := 4) rfl)
theorem wk9_5 : Cond.methodLink RL 27 yX8_text ∈ wsL_law := ch9 _ (List.mem_of_getElem? (i := 5) rfl)
theorem wk9_6 : Cond.instanceMethod yX8_text ∈ wsL_law := ch9 _ (List.mem_of_getElem? (i := 6) rfl)
theorem wk9_7 : Cond.selects RX8 yX8_text yX8_text ∈ wsL_law := ch9 _ (List.mem_of_getElem? (i := 7) rfl)
theorem wk9_8 : Cond.code yX8_text cX8_text 1 (some .int) ∈ wsL_law := ch9 _ (List.mem_of_getElem? (i := 8) rfl)
theorem wk9_9 : Cond.fieldLink RX8 107 "ShutDays$World" "texts" "I" ∈ wsL_law := ch9 _ (List.mem_of_getElem? (i := 9) rfl)
theorem wk9_10 : Cond.fieldLink RX8 113 "ShutDays" "wasRead" "Z" ∈ wsL_law := ch9 _ (List.mem_of_getElem? (i := 10) rfl)
theorem wk9_11 : Cond.fieldLink RX8 117 "ShutDays$Reader" "fault" "I" ∈ wsL_law := ch9 _ (List.mem_of_getElem? (i := 11) rfl)
theorem wk9_12 : Cond.fieldLink RX8 120 "ShutDays$Reader" "draft" "LShutDays$Text;" ∈ wsL_law := ch9 _ (List.mem_of_getElem? (i := 12) rfl)
theorem wk9_13 : Cond.methodLink RX8 109 yX4_read ∈ wsL_law := ch9 _ (List.mem_of_getElem? (i := 13) rfl)
theorem wk9_14 : Cond.instanceMethod yX4_read ∈ wsL_law := ch9 _ (List.mem_of_getElem? (i := 14) rfl)
theorem wk9_15 : Cond.selects RX4 yX4_read yX4_read ∈ wsL_law := ch9 _ (List.mem_of_getElem? (i := 15) rfl)
theorem wk9_16 : Cond.code yX4_read cX4_read 5 none ∈ wsL_law := ch9 _ (List.mem_of_getElem? (i := 16) rfl)
theorem wk9_17 : Cond.fieldLink RX4 32 "ShutDays$Reader" "fault" "I" ∈ wsL_law := ch9 _ (List.mem_of_getElem? (i := 17) rfl)
theorem wk9_18 : Cond.fieldLink RX4 35 "ShutDays$Reader" "at" "I" ∈ wsL_law := ch9 _ (List.mem_of_getElem? (i := 18) rfl)
theorem wk9_19 : Cond.methodLink RX4 41 Lib.Math.min.name ∈ wsL_law := ch9 _ (List.mem_of_getElem? (i := 19) rfl)
theorem wk9_20 : Cond.static Lib.Math.min.name ∈ wsL_law := ch9 _ (List.mem_of_getElem? (i := 20) rfl)
theorem wk9_21 : Cond.initialized "java/lang/Math" ∈ wsL_law := ch9 _ (List.mem_of_getElem? (i := 21) rfl)
theorem wk9_22 : Cond.code Lib.Math.min.name Lib.Math.min.code 2 (some .int) ∈ wsL_law := ch9 _ (List.mem_of_getElem? (i := 22) rfl)
theorem wk9_23 : Cond.methodLink RX4 38 yX5_clear ∈ wsL_law := ch9 _ (List.mem_of_getElem? (i := 23) rfl)
theorem wk10_0 : Cond.instanceMethod yX5_clear ∈ wsL_law := ch10 _ (List.mem_of_getElem? (i := 0) rfl)
theorem wk10_1 : Cond.selects RX5 yX5_clear yX5_clear ∈ wsL_law := ch10 _ (List.mem_of_getElem? (i := 1) rfl)
theorem wk10_2 : Cond.code yX5_clear cX5_clear 2 none ∈ wsL_law := ch10 _ (List.mem_of_getElem? (i := 2) rfl)
theorem wk10_3 : Cond.fieldLink RX5 24 "ShutDays$Text" "size" "I" ∈ wsL_law := ch10 _ (List.mem_of_getElem? (i := 3) rfl)
theorem wk10_4 : Cond.fieldLink RX5 28 "ShutDays$Text" "clauses" "I" ∈ wsL_law := ch10 _ (List.mem_of_getElem? (i := 4) rfl)
theorem wk10_5 : Cond.methodLink RX4 47 yX4_splitUp ∈ wsL_law := ch10 _ (List.mem_of_getElem? (i := 5) rfl)
theorem wk10_6 : Cond.instanceMethod yX4_splitUp ∈ wsL_law := ch10 _ (List.mem_of_getElem? (i := 6) rfl)
theorem wk10_7 : Cond.selects RX4 yX4_splitUp yX4_splitUp ∈ wsL_law := ch10 _ (List.mem_of_getElem? (i := 7) rfl)
theorem wk10_8 : Cond.code yX4_splitUp cX4_splitUp 6 none ∈ wsL_law := ch10 _ (List.mem_of_getElem? (i := 8) rfl)
theorem wk10_9 : Cond.fieldLink RX4 75 "ShutDays$Reader" "tokens" "I" ∈ wsL_law := ch10 _ (List.mem_of_getElem? (i := 9) rfl)
theorem wk10_10 : Cond.methodLink RX4 78 yX4_tokenEnd ∈ wsL_law := ch10 _ (List.mem_of_getElem? (i := 10) rfl)
theorem wk10_11 : Cond.static yX4_tokenEnd ∈ wsL_law := ch10 _ (List.mem_of_getElem? (i := 11) rfl)
theorem wk10_12 : Cond.code yX4_tokenEnd cX4_tokenEnd 4 (some .int) ∈ wsL_law := ch10 _ (List.mem_of_getElem? (i := 12) rfl)
theorem wk10_13 : Cond.methodLink RX4 88 yX4_isLetter ∈ wsL_law := ch10 _ (List.mem_of_getElem? (i := 13) rfl)
theorem wk10_14 : Cond.static yX4_isLetter ∈ wsL_law := ch10 _ (List.mem_of_getElem? (i := 14) rfl)
theorem wk10_15 : Cond.code yX4_isLetter cX4_isLetter 1 (some .boolean) ∈ wsL_law := ch10 _ (List.mem_of_getElem? (i := 15) rfl)
theorem wk10_16 : Cond.methodLink RX4 91 yX4_isDigit ∈ wsL_law := ch10 _ (List.mem_of_getElem? (i := 16) rfl)
theorem wk10_17 : Cond.static yX4_isDigit ∈ wsL_law := ch10 _ (List.mem_of_getElem? (i := 17) rfl)
theorem wk10_18 : Cond.code yX4_isDigit cX4_isDigit 1 (some .boolean) ∈ wsL_law := ch10 _ (List.mem_of_getElem? (i := 18) rfl)
theorem wk10_19 : Cond.methodLink RX4 82 yX4_kindOf ∈ wsL_law := ch10 _ (List.mem_of_getElem? (i := 19) rfl)
theorem wk10_20 : Cond.static yX4_kindOf ∈ wsL_law := ch10 _ (List.mem_of_getElem? (i := 20) rfl)
theorem wk10_21 : Cond.code yX4_kindOf cX4_kindOf 4 (some .int) ∈ wsL_law := ch10 _ (List.mem_of_getElem? (i := 21) rfl)
theorem wk10_22 : Cond.methodLink RX4 94 yX4_kindOfWord ∈ wsL_law := ch10 _ (List.mem_of_getElem? (i := 22) rfl)
theorem wk10_23 : Cond.static yX4_kindOfWord ∈ wsL_law := ch10 _ (List.mem_of_getElem? (i := 23) rfl)
theorem wk11_0 : Cond.code yX4_kindOfWord cX4_kindOfWord 4 (some .int) ∈ wsL_law := ch11 _ (List.mem_of_getElem? (i := 0) rfl)
theorem wk11_1 : Cond.methodLink RX4 105 yX4_isWord ∈ wsL_law := ch11 _ (List.mem_of_getElem? (i := 1) rfl)
theorem wk11_2 : Cond.static yX4_isWord ∈ wsL_law := ch11 _ (List.mem_of_getElem? (i := 2) rfl)
theorem wk11_3 : Cond.code yX4_isWord cX4_isWord 7 (some .boolean) ∈ wsL_law := ch11 _ (List.mem_of_getElem? (i := 3) rfl)
theorem wk11_4 : Cond.methodLink RX4 111 yJ0_charAt_5068e ∈ wsL_law := ch11 _ (List.mem_of_getElem? (i := 4) rfl)
theorem wk11_5 : Cond.instanceMethod yJ0_charAt_5068e ∈ wsL_law := ch11 _ (List.mem_of_getElem? (i := 5) rfl)
theorem wk11_6 : Cond.selects RJ0 yJ0_charAt_5068e yJ0_charAt_5068e ∈ wsL_law := ch11 _ (List.mem_of_getElem? (i := 6) rfl)
theorem wk11_7 : Cond.initialized RJ0 ∈ wsL_law := ch11 _ (List.mem_of_getElem? (i := 7) rfl)
theorem wk11_8 : Cond.code yJ0_charAt_5068e cJ0_charAt_5068e 2 (some .char) ∈ wsL_law := ch11 _ (List.mem_of_getElem? (i := 8) rfl)
theorem wk11_9 : Cond.fieldLink RJ0 9 "java/lang/String" "value" "[B" ∈ wsL_law := ch11 _ (List.mem_of_getElem? (i := 9) rfl)
theorem wk11_10 : Cond.methodLink RJ0 492 yJ0_isLatin1_aae02 ∈ wsL_law := ch11 _ (List.mem_of_getElem? (i := 10) rfl)
theorem wk11_11 : Cond.instanceMethod yJ0_isLatin1_aae02 ∈ wsL_law := ch11 _ (List.mem_of_getElem? (i := 11) rfl)
theorem wk11_12 : Cond.selects RJ0 yJ0_isLatin1_aae02 yJ0_isLatin1_aae02 ∈ wsL_law := ch11 _ (List.mem_of_getElem? (i := 12) rfl)
theorem wk11_13 : Cond.code yJ0_isLatin1_aae02 cJ0_isLatin1_aae02 1 (some .boolean) ∈ wsL_law := ch11 _ (List.mem_of_getElem? (i := 13) rfl)
theorem wk11_14 : Cond.fieldLink RJ0 38 "java/lang/String" "COMPACT_STRINGS" "Z" ∈ wsL_law := ch11 _ (List.mem_of_getElem? (i := 14) rfl)
theorem wk11_15 : Cond.fieldLink RJ0 15 "java/lang/String" "coder" "B" ∈ wsL_law := ch11 _ (List.mem_of_getElem? (i := 15) rfl)
theorem wk11_16 : Cond.methodLink RJ0 495 yJ1_charAt_3b067 ∈ wsL_law := ch11 _ (List.mem_of_getElem? (i := 16) rfl)
theorem wk11_17 : Cond.static yJ1_charAt_3b067 ∈ wsL_law := ch11 _ (List.mem_of_getElem? (i := 17) rfl)
theorem wk11_18 : Cond.initialized RJ1 ∈ wsL_law := ch11 _ (List.mem_of_getElem? (i := 18) rfl)
theorem wk11_19 : Cond.code yJ1_charAt_3b067 cJ1_charAt_3b067 2 (some .char) ∈ wsL_law := ch11 _ (List.mem_of_getElem? (i := 19) rfl)
theorem wk11_20 : Cond.methodLink RJ1 9 yJ0_checkIndex_df160 ∈ wsL_law := ch11 _ (List.mem_of_getElem? (i := 20) rfl)
theorem wk11_21 : Cond.static yJ0_checkIndex_df160 ∈ wsL_law := ch11 _ (List.mem_of_getElem? (i := 21) rfl)
theorem wk11_22 : Cond.code yJ0_checkIndex_df160 cJ0_checkIndex_df160 2 none ∈ wsL_law := ch11 _ (List.mem_of_getElem? (i := 22) rfl)
theorem wk11_23 : Cond.fieldLink RJ0 1053 "jdk/internal/util/Preconditions" "SIOOBE_FORMATTER" "Ljava/util/function/BiFunction;" ∈ wsL_law := ch11 _ (List.mem_of_getElem? (i := 23) rfl)
theorem wk12_0 : Cond.methodLink RJ0 1059 yJ3_checkIndex_8e157 ∈ wsL_law := ch12 _ (List.mem_of_getElem? (i := 0) rfl)
theorem wk12_1 : Cond.static yJ3_checkIndex_8e157 ∈ wsL_law := ch12 _ (List.mem_of_getElem? (i := 1) rfl)
theorem wk12_2 : Cond.initialized RJ3 ∈ wsL_law := ch12 _ (List.mem_of_getElem? (i := 2) rfl)
theorem wk12_3 : Cond.code yJ3_checkIndex_8e157 cJ3_checkIndex_8e157 3 (some .int) ∈ wsL_law := ch12 _ (List.mem_of_getElem? (i := 3) rfl)
theorem wk12_4 : Cond.methodLink RJ0 498 yJ2_charAt_3b067 ∈ wsL_law := ch12 _ (List.mem_of_getElem? (i := 4) rfl)
theorem wk12_5 : Cond.static yJ2_charAt_3b067 ∈ wsL_law := ch12 _ (List.mem_of_getElem? (i := 5) rfl)
theorem wk12_6 : Cond.initialized RJ2 ∈ wsL_law := ch12 _ (List.mem_of_getElem? (i := 6) rfl)
theorem wk12_7 : Cond.code yJ2_charAt_3b067 cJ2_charAt_3b067 2 (some .char) ∈ wsL_law := ch12 _ (List.mem_of_getElem? (i := 7) rfl)
theorem wk12_8 : Cond.methodLink RJ2 67 yJ2_checkIndex_2214a ∈ wsL_law := ch12 _ (List.mem_of_getElem? (i := 8) rfl)
theorem wk12_9 : Cond.static yJ2_checkIndex_2214a ∈ wsL_law := ch12 _ (List.mem_of_getElem? (i := 9) rfl)
theorem wk12_10 : Cond.code yJ2_checkIndex_2214a cJ2_checkIndex_2214a 2 none ∈ wsL_law := ch12 _ (List.mem_of_getElem? (i := 10) rfl)
theorem wk12_11 : Cond.methodLink RJ2 48 yJ2_length_9d52b ∈ wsL_law := ch12 _ (List.mem_of_getElem? (i := 11) rfl)
theorem wk12_12 : Cond.static yJ2_length_9d52b ∈ wsL_law := ch12 _ (List.mem_of_getElem? (i := 12) rfl)
theorem wk12_13 : Cond.code yJ2_length_9d52b cJ2_length_9d52b 1 (some .int) ∈ wsL_law := ch12 _ (List.mem_of_getElem? (i := 13) rfl)
theorem wk12_14 : Cond.methodLink RJ2 414 yJ0_checkIndex_df160 ∈ wsL_law := ch12 _ (List.mem_of_getElem? (i := 14) rfl)
theorem wk12_15 : Cond.methodLink RJ2 71 yJ2_getChar_3b067 ∈ wsL_law := ch12 _ (List.mem_of_getElem? (i := 15) rfl)
theorem wk12_16 : Cond.static yJ2_getChar_3b067 ∈ wsL_law := ch12 _ (List.mem_of_getElem? (i := 16) rfl)
theorem wk12_17 : Cond.code yJ2_getChar_3b067 cJ2_getChar_3b067 2 (some .char) ∈ wsL_law := ch12 _ (List.mem_of_getElem? (i := 17) rfl)
theorem wk12_18 : Cond.fieldLink RJ2 44 "java/lang/StringUTF16" "$assertionsDisabled" "Z" ∈ wsL_law := ch12 _ (List.mem_of_getElem? (i := 18) rfl)
theorem wk12_19 : Cond.fieldLink RJ2 59 "java/lang/StringUTF16" "HI_BYTE_SHIFT" "I" ∈ wsL_law := ch12 _ (List.mem_of_getElem? (i := 19) rfl)
theorem wk12_20 : Cond.fieldLink RJ2 63 "java/lang/StringUTF16" "LO_BYTE_SHIFT" "I" ∈ wsL_law := ch12 _ (List.mem_of_getElem? (i := 20) rfl)
theorem wk12_21 : Cond.methodLink RX4 99 yJ0_indexOf_0f7a4 ∈ wsL_law := ch12 _ (List.mem_of_getElem? (i := 21) rfl)
theorem wk12_22 : Cond.instanceMethod yJ0_indexOf_0f7a4 ∈ wsL_law := ch12 _ (List.mem_of_getElem? (i := 22) rfl)
theorem wk12_23 : Cond.selects RJ0 yJ0_indexOf_0f7a4 yJ0_indexOf_0f7a4 ∈ wsL_law := ch12 _ (List.mem_of_getElem? (i := 23) rfl)
theorem wk13_0 : Cond.code yJ0_indexOf_0f7a4 cJ0_indexOf_0f7a4 2 (some .int) ∈ wsL_law := ch13 _ (List.mem_of_getElem? (i := 0) rfl)
theorem wk13_1 : Cond.methodLink RJ0 633 yJ0_indexOf_7cf53 ∈ wsL_law := ch13 _ (List.mem_of_getElem? (i := 1) rfl)
theorem wk13_2 : Cond.instanceMethod yJ0_indexOf_7cf53 ∈ wsL_law := ch13 _ (List.mem_of_getElem? (i := 2) rfl)
theorem wk13_3 : Cond.selects RJ0 yJ0_indexOf_7cf53 yJ0_indexOf_7cf53 ∈ wsL_law := ch13 _ (List.mem_of_getElem? (i := 3) rfl)
theorem wk13_4 : Cond.code yJ0_indexOf_7cf53 cJ0_indexOf_7cf53 3 (some .int) ∈ wsL_law := ch13 _ (List.mem_of_getElem? (i := 4) rfl)
theorem wk13_5 : Cond.methodLink RJ0 505 yJ0_length_8abf5 ∈ wsL_law := ch13 _ (List.mem_of_getElem? (i := 5) rfl)
theorem wk13_6 : Cond.instanceMethod yJ0_length_8abf5 ∈ wsL_law := ch13 _ (List.mem_of_getElem? (i := 6) rfl)
theorem wk13_7 : Cond.selects RJ0 yJ0_length_8abf5 yJ0_length_8abf5 ∈ wsL_law := ch13 _ (List.mem_of_getElem? (i := 7) rfl)
theorem wk13_8 : Cond.code yJ0_length_8abf5 cJ0_length_8abf5 1 (some .int) ∈ wsL_law := ch13 _ (List.mem_of_getElem? (i := 8) rfl)
theorem wk13_9 : Cond.methodLink RJ0 335 yJ0_coder_7d493 ∈ wsL_law := ch13 _ (List.mem_of_getElem? (i := 9) rfl)
theorem wk13_10 : Cond.instanceMethod yJ0_coder_7d493 ∈ wsL_law := ch13 _ (List.mem_of_getElem? (i := 10) rfl)
theorem wk13_11 : Cond.selects RJ0 yJ0_coder_7d493 yJ0_coder_7d493 ∈ wsL_law := ch13 _ (List.mem_of_getElem? (i := 11) rfl)
theorem wk13_12 : Cond.code yJ0_coder_7d493 cJ0_coder_7d493 1 (some .byte) ∈ wsL_law := ch13 _ (List.mem_of_getElem? (i := 12) rfl)
theorem wk13_13 : Cond.methodLink RJ0 637 yJ1_indexOf_4cfef ∈ wsL_law := ch13 _ (List.mem_of_getElem? (i := 13) rfl)
theorem wk13_14 : Cond.static yJ1_indexOf_4cfef ∈ wsL_law := ch13 _ (List.mem_of_getElem? (i := 14) rfl)
theorem wk13_15 : Cond.code yJ1_indexOf_4cfef cJ1_indexOf_4cfef 4 (some .int) ∈ wsL_law := ch13 _ (List.mem_of_getElem? (i := 15) rfl)
theorem wk13_16 : Cond.methodLink RJ1 92 Lib.Math.max.name ∈ wsL_law := ch13 _ (List.mem_of_getElem? (i := 16) rfl)
theorem wk13_17 : Cond.static Lib.Math.max.name ∈ wsL_law := ch13 _ (List.mem_of_getElem? (i := 17) rfl)
theorem wk13_18 : Cond.code Lib.Math.max.name Lib.Math.max.code 2 (some .int) ∈ wsL_law := ch13 _ (List.mem_of_getElem? (i := 18) rfl)
theorem wk13_19 : Cond.methodLink RJ1 38 Lib.Math.min.name ∈ wsL_law := ch13 _ (List.mem_of_getElem? (i := 19) rfl)
theorem wk13_20 : Cond.methodLink RJ1 88 yJ1_canEncode_9a6ad ∈ wsL_law := ch13 _ (List.mem_of_getElem? (i := 20) rfl)
theorem wk13_21 : Cond.static yJ1_canEncode_9a6ad ∈ wsL_law := ch13 _ (List.mem_of_getElem? (i := 21) rfl)
theorem wk13_22 : Cond.code yJ1_canEncode_9a6ad cJ1_canEncode_9a6ad 1 (some .boolean) ∈ wsL_law := ch13 _ (List.mem_of_getElem? (i := 22) rfl)
theorem wk13_23 : Cond.methodLink RJ1 95 yJ1_indexOfChar_4cfef ∈ wsL_law := ch13 _ (List.mem_of_getElem? (i := 23) rfl)
theorem wk14_0 : Cond.static yJ1_indexOfChar_4cfef ∈ wsL_law := ch14 _ (List.mem_of_getElem? (i := 0) rfl)
theorem wk14_1 : Cond.code yJ1_indexOfChar_4cfef cJ1_indexOfChar_4cfef 6 (some .int) ∈ wsL_law := ch14 _ (List.mem_of_getElem? (i := 1) rfl)
theorem wk14_2 : Cond.methodLink RJ0 640 yJ2_indexOf_4cfef ∈ wsL_law := ch14 _ (List.mem_of_getElem? (i := 2) rfl)
theorem wk14_3 : Cond.static yJ2_indexOf_4cfef ∈ wsL_law := ch14 _ (List.mem_of_getElem? (i := 3) rfl)
theorem wk14_4 : Cond.code yJ2_indexOf_4cfef cJ2_indexOf_4cfef 4 (some .int) ∈ wsL_law := ch14 _ (List.mem_of_getElem? (i := 4) rfl)
theorem wk14_5 : Cond.methodLink RJ2 224 Lib.Math.max.name ∈ wsL_law := ch14 _ (List.mem_of_getElem? (i := 5) rfl)
theorem wk14_6 : Cond.methodLink RJ2 183 Lib.Math.min.name ∈ wsL_law := ch14 _ (List.mem_of_getElem? (i := 6) rfl)
theorem wk14_7 : Cond.constant RJ2 227 (65536) ∈ wsL_law := ch14 _ (List.mem_of_getElem? (i := 7) rfl)
theorem wk14_8 : Cond.methodLink RJ2 228 yJ2_indexOfChar_4cfef ∈ wsL_law := ch14 _ (List.mem_of_getElem? (i := 8) rfl)
theorem wk14_9 : Cond.static yJ2_indexOfChar_4cfef ∈ wsL_law := ch14 _ (List.mem_of_getElem? (i := 9) rfl)
theorem wk14_10 : Cond.code yJ2_indexOfChar_4cfef cJ2_indexOfChar_4cfef 4 (some .int) ∈ wsL_law := ch14 _ (List.mem_of_getElem? (i := 10) rfl)
theorem wk14_11 : Cond.methodLink RJ2 96 yJ2_checkBoundsBeginEnd_d044e ∈ wsL_law := ch14 _ (List.mem_of_getElem? (i := 11) rfl)
theorem wk14_12 : Cond.static yJ2_checkBoundsBeginEnd_d044e ∈ wsL_law := ch14 _ (List.mem_of_getElem? (i := 12) rfl)
theorem wk14_13 : Cond.code yJ2_checkBoundsBeginEnd_d044e cJ2_checkBoundsBeginEnd_d044e 3 none ∈ wsL_law := ch14 _ (List.mem_of_getElem? (i := 13) rfl)
theorem wk14_14 : Cond.methodLink RJ2 241 yJ0_checkBoundsBeginEnd_23922 ∈ wsL_law := ch14 _ (List.mem_of_getElem? (i := 14) rfl)
theorem wk14_15 : Cond.static yJ0_checkBoundsBeginEnd_23922 ∈ wsL_law := ch14 _ (List.mem_of_getElem? (i := 15) rfl)
theorem wk14_16 : Cond.code yJ0_checkBoundsBeginEnd_23922 cJ0_checkBoundsBeginEnd_23922 3 none ∈ wsL_law := ch14 _ (List.mem_of_getElem? (i := 16) rfl)
theorem wk14_17 : Cond.methodLink RJ0 1062 yJ3_checkFromToIndex_8c36e ∈ wsL_law := ch14 _ (List.mem_of_getElem? (i := 17) rfl)
theorem wk14_18 : Cond.static yJ3_checkFromToIndex_8c36e ∈ wsL_law := ch14 _ (List.mem_of_getElem? (i := 18) rfl)
theorem wk14_19 : Cond.code yJ3_checkFromToIndex_8c36e cJ3_checkFromToIndex_8c36e 4 (some .int) ∈ wsL_law := ch14 _ (List.mem_of_getElem? (i := 19) rfl)
theorem wk14_20 : Cond.methodLink RJ2 244 yJ2_indexOfCharUnsafe_4cfef ∈ wsL_law := ch14 _ (List.mem_of_getElem? (i := 20) rfl)
theorem wk14_21 : Cond.static yJ2_indexOfCharUnsafe_4cfef ∈ wsL_law := ch14 _ (List.mem_of_getElem? (i := 21) rfl)
theorem wk14_22 : Cond.code yJ2_indexOfCharUnsafe_4cfef cJ2_indexOfCharUnsafe_4cfef 5 (some .int) ∈ wsL_law := ch14 _ (List.mem_of_getElem? (i := 22) rfl)
theorem wk14_23 : Cond.methodLink RJ2 232 yJ2_indexOfSupplementary_4cfef ∈ wsL_law := ch14 _ (List.mem_of_getElem? (i := 23) rfl)
theorem wk15_0 : Cond.static yJ2_indexOfSupplementary_4cfef ∈ wsL_law := ch15 _ (List.mem_of_getElem? (i := 0) rfl)
theorem wk15_1 : Cond.code yJ2_indexOfSupplementary_4cfef cJ2_indexOfSupplementary_4cfef 7 (some .int) ∈ wsL_law := ch15 _ (List.mem_of_getElem? (i := 1) rfl)
theorem wk15_2 : Cond.methodLink RJ2 164 yJ11_isValidCodePoint_9a6ad ∈ wsL_law := ch15 _ (List.mem_of_getElem? (i := 2) rfl)
theorem wk15_3 : Cond.static yJ11_isValidCodePoint_9a6ad ∈ wsL_law := ch15 _ (List.mem_of_getElem? (i := 3) rfl)
theorem wk15_4 : Cond.initialized RJ11 ∈ wsL_law := ch15 _ (List.mem_of_getElem? (i := 4) rfl)
theorem wk15_5 : Cond.code yJ11_isValidCodePoint_9a6ad cJ11_isValidCodePoint_9a6ad 2 (some .boolean) ∈ wsL_law := ch15 _ (List.mem_of_getElem? (i := 5) rfl)
theorem wk15_6 : Cond.methodLink RJ2 157 yJ11_highSurrogate_5068e ∈ wsL_law := ch15 _ (List.mem_of_getElem? (i := 6) rfl)
theorem wk15_7 : Cond.static yJ11_highSurrogate_5068e ∈ wsL_law := ch15 _ (List.mem_of_getElem? (i := 7) rfl)
theorem wk15_8 : Cond.code yJ11_highSurrogate_5068e cJ11_highSurrogate_5068e 1 (some .char) ∈ wsL_law := ch15 _ (List.mem_of_getElem? (i := 8) rfl)
theorem wk15_9 : Cond.constant RJ11 110 (55232) ∈ wsL_law := ch15 _ (List.mem_of_getElem? (i := 9) rfl)
theorem wk15_10 : Cond.methodLink RJ2 161 yJ11_lowSurrogate_5068e ∈ wsL_law := ch15 _ (List.mem_of_getElem? (i := 10) rfl)
theorem wk15_11 : Cond.static yJ11_lowSurrogate_5068e ∈ wsL_law := ch15 _ (List.mem_of_getElem? (i := 11) rfl)
theorem wk15_12 : Cond.code yJ11_lowSurrogate_5068e cJ11_lowSurrogate_5068e 1 (some .char) ∈ wsL_law := ch15 _ (List.mem_of_getElem? (i := 12) rfl)
theorem wk15_13 : Cond.constant RJ11 76 (56320) ∈ wsL_law := ch15 _ (List.mem_of_getElem? (i := 13) rfl)
theorem wk15_14 : Cond.methodLink RX4 85 yX4_valueOf ∈ wsL_law := ch15 _ (List.mem_of_getElem? (i := 14) rfl)
theorem wk15_15 : Cond.static yX4_valueOf ∈ wsL_law := ch15 _ (List.mem_of_getElem? (i := 15) rfl)
theorem wk15_16 : Cond.code yX4_valueOf cX4_valueOf 5 (some .int) ∈ wsL_law := ch15 _ (List.mem_of_getElem? (i := 16) rfl)
theorem wk15_17 : Cond.methodLink RX4 51 yX4_kind ∈ wsL_law := ch15 _ (List.mem_of_getElem? (i := 17) rfl)
theorem wk15_18 : Cond.instanceMethod yX4_kind ∈ wsL_law := ch15 _ (List.mem_of_getElem? (i := 18) rfl)
theorem wk15_19 : Cond.selects RX4 yX4_kind yX4_kind ∈ wsL_law := ch15 _ (List.mem_of_getElem? (i := 19) rfl)
theorem wk15_20 : Cond.code yX4_kind cX4_kind 1 (some .int) ∈ wsL_law := ch15 _ (List.mem_of_getElem? (i := 20) rfl)
theorem wk15_21 : Cond.methodLink RX4 55 yX4_canStart ∈ wsL_law := ch15 _ (List.mem_of_getElem? (i := 21) rfl)
theorem wk15_22 : Cond.instanceMethod yX4_canStart ∈ wsL_law := ch15 _ (List.mem_of_getElem? (i := 22) rfl)
theorem wk15_23 : Cond.selects RX4 yX4_canStart yX4_canStart ∈ wsL_law := ch15 _ (List.mem_of_getElem? (i := 23) rfl)
theorem wk16_0 : Cond.code yX4_canStart cX4_canStart 2 (some .boolean) ∈ wsL_law := ch16 _ (List.mem_of_getElem? (i := 0) rfl)
theorem wk16_1 : Cond.fieldLink RX4 125 "ShutDays$Text" "clauses" "I" ∈ wsL_law := ch16 _ (List.mem_of_getElem? (i := 1) rfl)
theorem wk16_2 : Cond.methodLink RX4 62 yX4_isLaw ∈ wsL_law := ch16 _ (List.mem_of_getElem? (i := 2) rfl)
theorem wk16_3 : Cond.static yX4_isLaw ∈ wsL_law := ch16 _ (List.mem_of_getElem? (i := 3) rfl)
theorem wk16_4 : Cond.code yX4_isLaw cX4_isLaw 1 (some .boolean) ∈ wsL_law := ch16 _ (List.mem_of_getElem? (i := 4) rfl)
theorem wk16_5 : Cond.methodLink RX4 115 yX4_fail ∈ wsL_law := ch16 _ (List.mem_of_getElem? (i := 5) rfl)
theorem wk16_6 : Cond.instanceMethod yX4_fail ∈ wsL_law := ch16 _ (List.mem_of_getElem? (i := 6) rfl)
theorem wk16_7 : Cond.selects RX4 yX4_fail yX4_fail ∈ wsL_law := ch16 _ (List.mem_of_getElem? (i := 7) rfl)
theorem wk16_8 : Cond.code yX4_fail cX4_fail 2 none ∈ wsL_law := ch16 _ (List.mem_of_getElem? (i := 8) rfl)
theorem wk16_9 : Cond.methodLink RX4 122 yX5_has ∈ wsL_law := ch16 _ (List.mem_of_getElem? (i := 9) rfl)
theorem wk16_10 : Cond.instanceMethod yX5_has ∈ wsL_law := ch16 _ (List.mem_of_getElem? (i := 10) rfl)
theorem wk16_11 : Cond.selects RX5 yX5_has yX5_has ∈ wsL_law := ch16 _ (List.mem_of_getElem? (i := 11) rfl)
theorem wk16_12 : Cond.code yX5_has cX5_has 2 (some .boolean) ∈ wsL_law := ch16 _ (List.mem_of_getElem? (i := 12) rfl)
theorem wk16_13 : Cond.methodLink RX4 59 yX4_advance ∈ wsL_law := ch16 _ (List.mem_of_getElem? (i := 13) rfl)
theorem wk16_14 : Cond.instanceMethod yX4_advance ∈ wsL_law := ch16 _ (List.mem_of_getElem? (i := 14) rfl)
theorem wk16_15 : Cond.selects RX4 yX4_advance yX4_advance ∈ wsL_law := ch16 _ (List.mem_of_getElem? (i := 15) rfl)
theorem wk16_16 : Cond.code yX4_advance cX4_advance 1 none ∈ wsL_law := ch16 _ (List.mem_of_getElem? (i := 16) rfl)
theorem wk16_17 : Cond.methodLink RX4 65 yX4_readLaw ∈ wsL_law := ch16 _ (List.mem_of_getElem? (i := 17) rfl)
theorem wk16_18 : Cond.instanceMethod yX4_readLaw ∈ wsL_law := ch16 _ (List.mem_of_getElem? (i := 18) rfl)
theorem wk16_19 : Cond.selects RX4 yX4_readLaw yX4_readLaw ∈ wsL_law := ch16 _ (List.mem_of_getElem? (i := 19) rfl)
theorem wk16_20 : Cond.code yX4_readLaw cX4_readLaw 3 none ∈ wsL_law := ch16 _ (List.mem_of_getElem? (i := 20) rfl)
theorem wk16_21 : Cond.fieldLink RX4 135 "ShutDays$Reader" "inLets" "Z" ∈ wsL_law := ch16 _ (List.mem_of_getElem? (i := 21) rfl)
theorem wk16_22 : Cond.fieldLink RX4 139 "ShutDays$Text" "lawFrom" "[I" ∈ wsL_law := ch16 _ (List.mem_of_getElem? (i := 22) rfl)
theorem wk16_23 : Cond.fieldLink RX4 142 "ShutDays$Text" "size" "I" ∈ wsL_law := ch16 _ (List.mem_of_getElem? (i := 23) rfl)
theorem wk17_0 : Cond.fieldLink RX4 151 "ShutDays$Text" "lawTo" "[I" ∈ wsL_law := ch17 _ (List.mem_of_getElem? (i := 0) rfl)
theorem wk17_1 : Cond.methodLink RX4 145 yX4_readEither ∈ wsL_law := ch17 _ (List.mem_of_getElem? (i := 1) rfl)
theorem wk17_2 : Cond.instanceMethod yX4_readEither ∈ wsL_law := ch17 _ (List.mem_of_getElem? (i := 2) rfl)
theorem wk17_3 : Cond.selects RX4 yX4_readEither yX4_readEither ∈ wsL_law := ch17 _ (List.mem_of_getElem? (i := 3) rfl)
theorem wk17_4 : Cond.code yX4_readEither cX4_readEither 4 none ∈ wsL_law := ch17 _ (List.mem_of_getElem? (i := 4) rfl)
theorem wk17_5 : Cond.methodLink RX4 154 yX4_readAsk ∈ wsL_law := ch17 _ (List.mem_of_getElem? (i := 5) rfl)
theorem wk17_6 : Cond.instanceMethod yX4_readAsk ∈ wsL_law := ch17 _ (List.mem_of_getElem? (i := 6) rfl)
theorem wk17_7 : Cond.selects RX4 yX4_readAsk yX4_readAsk ∈ wsL_law := ch17 _ (List.mem_of_getElem? (i := 7) rfl)
theorem wk17_8 : Cond.code yX4_readAsk cX4_readAsk 4 none ∈ wsL_law := ch17 _ (List.mem_of_getElem? (i := 8) rfl)
theorem wk17_9 : Cond.methodLink RX4 160 yX4_canEnter ∈ wsL_law := ch17 _ (List.mem_of_getElem? (i := 9) rfl)
theorem wk17_10 : Cond.instanceMethod yX4_canEnter ∈ wsL_law := ch17 _ (List.mem_of_getElem? (i := 10) rfl)
theorem wk17_11 : Cond.selects RX4 yX4_canEnter yX4_canEnter ∈ wsL_law := ch17 _ (List.mem_of_getElem? (i := 11) rfl)
theorem wk17_12 : Cond.code yX4_canEnter cX4_canEnter 2 (some .boolean) ∈ wsL_law := ch17 _ (List.mem_of_getElem? (i := 12) rfl)
theorem wk17_13 : Cond.methodLink RX4 148 yX4_readSum ∈ wsL_law := ch17 _ (List.mem_of_getElem? (i := 13) rfl)
theorem wk17_14 : Cond.instanceMethod yX4_readSum ∈ wsL_law := ch17 _ (List.mem_of_getElem? (i := 14) rfl)
theorem wk17_15 : Cond.selects RX4 yX4_readSum yX4_readSum ∈ wsL_law := ch17 _ (List.mem_of_getElem? (i := 15) rfl)
theorem wk17_16 : Cond.code yX4_readSum cX4_readSum 4 none ∈ wsL_law := ch17 _ (List.mem_of_getElem? (i := 16) rfl)
theorem wk17_17 : Cond.methodLink RX4 166 yX4_readProduct ∈ wsL_law := ch17 _ (List.mem_of_getElem? (i := 17) rfl)
theorem wk17_18 : Cond.instanceMethod yX4_readProduct ∈ wsL_law := ch17 _ (List.mem_of_getElem? (i := 18) rfl)
theorem wk17_19 : Cond.selects RX4 yX4_readProduct yX4_readProduct ∈ wsL_law := ch17 _ (List.mem_of_getElem? (i := 19) rfl)
theorem wk17_20 : Cond.methodLink RX4 157 yX4_emit ∈ wsL_law := ch17 _ (List.mem_of_getElem? (i := 20) rfl)
theorem wk17_21 : Cond.instanceMethod yX4_emit ∈ wsL_law := ch17 _ (List.mem_of_getElem? (i := 21) rfl)
theorem wk17_22 : Cond.selects RX4 yX4_emit yX4_emit ∈ wsL_law := ch17 _ (List.mem_of_getElem? (i := 22) rfl)
theorem wk17_23 : Cond.code yX4_emit cX4_emit 2 none ∈ wsL_law := ch17 _ (List.mem_of_getElem? (i := 23) rfl)
theorem wk18_0 : Cond.methodLink RX4 172 yX5_append ∈ wsL_law := ch18 _ (List.mem_of_getElem? (i := 0) rfl)
theorem wk18_1 : Cond.instanceMethod yX5_append ∈ wsL_law := ch18 _ (List.mem_of_getElem? (i := 1) rfl)
theorem wk18_2 : Cond.selects RX5 yX5_append yX5_append ∈ wsL_law := ch18 _ (List.mem_of_getElem? (i := 2) rfl)
theorem wk18_3 : Cond.code yX5_append cX5_append 2 none ∈ wsL_law := ch18 _ (List.mem_of_getElem? (i := 3) rfl)
theorem wk18_4 : Cond.code yX4_readEntered cX4_readEntered 3 none ∈ wsL_law := ch18 _ (List.mem_of_getElem? (i := 4) rfl)
theorem wk18_5 : Cond.methodLink RX4 72 yX4_expect ∈ wsL_law := ch18 _ (List.mem_of_getElem? (i := 5) rfl)
theorem wk18_6 : Cond.instanceMethod yX4_expect ∈ wsL_law := ch18 _ (List.mem_of_getElem? (i := 6) rfl)
theorem wk18_7 : Cond.selects RX4 yX4_expect yX4_expect ∈ wsL_law := ch18 _ (List.mem_of_getElem? (i := 7) rfl)
theorem wk18_8 : Cond.code yX4_expect cX4_expect 2 none ∈ wsL_law := ch18 _ (List.mem_of_getElem? (i := 8) rfl)
theorem wk18_9 : Cond.methodLink RX4 169 yX4_readOne ∈ wsL_law := ch18 _ (List.mem_of_getElem? (i := 9) rfl)
theorem wk18_10 : Cond.instanceMethod yX4_readOne ∈ wsL_law := ch18 _ (List.mem_of_getElem? (i := 10) rfl)
theorem wk18_11 : Cond.selects RX4 yX4_readOne yX4_readOne ∈ wsL_law := ch18 _ (List.mem_of_getElem? (i := 11) rfl)
theorem wk18_12 : Cond.code yX4_readOne cX4_readOne 3 none ∈ wsL_law := ch18 _ (List.mem_of_getElem? (i := 12) rfl)
theorem wk18_13 : Cond.methodLink RX4 128 yX4_expectNumber ∈ wsL_law := ch18 _ (List.mem_of_getElem? (i := 13) rfl)
theorem wk18_14 : Cond.instanceMethod yX4_expectNumber ∈ wsL_law := ch18 _ (List.mem_of_getElem? (i := 14) rfl)
theorem wk18_15 : Cond.selects RX4 yX4_expectNumber yX4_expectNumber ∈ wsL_law := ch18 _ (List.mem_of_getElem? (i := 15) rfl)
theorem wk18_16 : Cond.code yX4_expectNumber cX4_expectNumber 4 (some .int) ∈ wsL_law := ch18 _ (List.mem_of_getElem? (i := 16) rfl)
theorem wk18_17 : Cond.methodLink RX4 175 yX4_readName ∈ wsL_law := ch18 _ (List.mem_of_getElem? (i := 17) rfl)
theorem wk18_18 : Cond.instanceMethod yX4_readName ∈ wsL_law := ch18 _ (List.mem_of_getElem? (i := 18) rfl)
theorem wk18_19 : Cond.selects RX4 yX4_readName yX4_readName ∈ wsL_law := ch18 _ (List.mem_of_getElem? (i := 19) rfl)
theorem wk18_20 : Cond.code yX4_readName cX4_readName 2 none ∈ wsL_law := ch18 _ (List.mem_of_getElem? (i := 20) rfl)
theorem wk18_21 : Cond.methodLink RX4 178 yX4_readEntered ∈ wsL_law := ch18 _ (List.mem_of_getElem? (i := 21) rfl)
theorem wk18_22 : Cond.instanceMethod yX4_readEntered ∈ wsL_law := ch18 _ (List.mem_of_getElem? (i := 22) rfl)
theorem wk18_23 : Cond.selects RX4 yX4_readEntered yX4_readEntered ∈ wsL_law := ch18 _ (List.mem_of_getElem? (i := 23) rfl)
theorem wk19_0 : Cond.code yX4_readProduct cX4_readProduct 4 none ∈ wsL_law := ch19 _ (List.mem_of_getElem? (i := 0) rfl)
theorem wk19_1 : Cond.methodLink RX4 163 yX4_isRelation ∈ wsL_law := ch19 _ (List.mem_of_getElem? (i := 1) rfl)
theorem wk19_2 : Cond.static yX4_isRelation ∈ wsL_law := ch19 _ (List.mem_of_getElem? (i := 2) rfl)
theorem wk19_3 : Cond.code yX4_isRelation cX4_isRelation 1 (some .boolean) ∈ wsL_law := ch19 _ (List.mem_of_getElem? (i := 3) rfl)
theorem wk19_4 : Cond.methodLink RX4 131 yX5_appendClause ∈ wsL_law := ch19 _ (List.mem_of_getElem? (i := 4) rfl)
theorem wk19_5 : Cond.instanceMethod yX5_appendClause ∈ wsL_law := ch19 _ (List.mem_of_getElem? (i := 5) rfl)
theorem wk19_6 : Cond.selects RX5 yX5_appendClause yX5_appendClause ∈ wsL_law := ch19 _ (List.mem_of_getElem? (i := 6) rfl)
theorem wk19_7 : Cond.code yX5_appendClause cX5_appendClause 6 none ∈ wsL_law := ch19 _ (List.mem_of_getElem? (i := 7) rfl)
theorem wk19_8 : Cond.methodLink RX4 69 yX4_readDeed ∈ wsL_law := ch19 _ (List.mem_of_getElem? (i := 8) rfl)
theorem wk19_9 : Cond.instanceMethod yX4_readDeed ∈ wsL_law := ch19 _ (List.mem_of_getElem? (i := 9) rfl)
theorem wk19_10 : Cond.selects RX4 yX4_readDeed yX4_readDeed ∈ wsL_law := ch19 _ (List.mem_of_getElem? (i := 10) rfl)
theorem wk19_11 : Cond.code yX4_readDeed cX4_readDeed 5 none ∈ wsL_law := ch19 _ (List.mem_of_getElem? (i := 11) rfl)
theorem wk19_12 : Cond.methodLink RX8 123 yX5_copyFrom ∈ wsL_law := ch19 _ (List.mem_of_getElem? (i := 12) rfl)
theorem wk19_13 : Cond.instanceMethod yX5_copyFrom ∈ wsL_law := ch19 _ (List.mem_of_getElem? (i := 13) rfl)
theorem wk19_14 : Cond.selects RX5 yX5_copyFrom yX5_copyFrom ∈ wsL_law := ch19 _ (List.mem_of_getElem? (i := 14) rfl)
theorem wk19_15 : Cond.code yX5_copyFrom cX5_copyFrom 2 none ∈ wsL_law := ch19 _ (List.mem_of_getElem? (i := 15) rfl)
theorem wk19_16 : Cond.methodLink RX5 31 arraycopyName ∈ wsL_law := ch19 _ (List.mem_of_getElem? (i := 16) rfl)
theorem wk19_17 : Cond.native arraycopyName ∈ wsL_law := ch19 _ (List.mem_of_getElem? (i := 17) rfl)
theorem wk19_18 : Cond.static arraycopyName ∈ wsL_law := ch19 _ (List.mem_of_getElem? (i := 18) rfl)
theorem wk19_19 : Cond.initialized "java/lang/System" ∈ wsL_law := ch19 _ (List.mem_of_getElem? (i := 19) rfl)
theorem wk19_20 : Cond.methodLink RL 31 yX9_text ∈ wsL_law := ch19 _ (List.mem_of_getElem? (i := 20) rfl)
theorem wk19_21 : Cond.instanceMethod yX9_text ∈ wsL_law := ch19 _ (List.mem_of_getElem? (i := 21) rfl)
theorem wk19_22 : Cond.selects RX9 yX9_text yX9_text ∈ wsL_law := ch19 _ (List.mem_of_getElem? (i := 22) rfl)
theorem wk19_23 : Cond.code yX9_text cX9_text 1 (some .int) ∈ wsL_law := ch19 _ (List.mem_of_getElem? (i := 23) rfl)
theorem wk20_0 : Cond.fieldLink RX9 105 "ShutDaysModel" "place" "I" ∈ wsL_law := ch20 _ (List.mem_of_getElem? (i := 0) rfl)
theorem wk20_1 : Cond.methodLink RX9 259 yX9_readText ∈ wsL_law := ch20 _ (List.mem_of_getElem? (i := 1) rfl)
theorem wk20_2 : Cond.instanceMethod yX9_readText ∈ wsL_law := ch20 _ (List.mem_of_getElem? (i := 2) rfl)
theorem wk20_3 : Cond.selects RX9 yX9_readText yX9_readText ∈ wsL_law := ch20 _ (List.mem_of_getElem? (i := 3) rfl)
theorem wk20_4 : Cond.code yX9_readText cX9_readText 2 (some .int) ∈ wsL_law := ch20 _ (List.mem_of_getElem? (i := 4) rfl)
theorem wk20_5 : Cond.fieldLink RX9 146 "ShutDaysModel" "text0" "I" ∈ wsL_law := ch20 _ (List.mem_of_getElem? (i := 5) rfl)
theorem wk20_6 : Cond.fieldLink RX9 149 "ShutDaysModel" "written" "I" ∈ wsL_law := ch20 _ (List.mem_of_getElem? (i := 6) rfl)
theorem wk20_7 : Cond.fieldLink RX9 250 "ShutDaysModel" "once" "I" ∈ wsL_law := ch20 _ (List.mem_of_getElem? (i := 7) rfl)
theorem wk20_8 : Cond.fieldLink RX9 98 "ShutDaysModel" "at" "I" ∈ wsL_law := ch20 _ (List.mem_of_getElem? (i := 8) rfl)
theorem wk20_9 : Cond.fieldLink RX9 108 "ShutDaysModel" "token" "I" ∈ wsL_law := ch20 _ (List.mem_of_getElem? (i := 9) rfl)
theorem wk20_10 : Cond.methodLink RX9 184 yX9_nextToken ∈ wsL_law := ch20 _ (List.mem_of_getElem? (i := 10) rfl)
theorem wk20_11 : Cond.instanceMethod yX9_nextToken ∈ wsL_law := ch20 _ (List.mem_of_getElem? (i := 11) rfl)
theorem wk20_12 : Cond.selects RX9 yX9_nextToken yX9_nextToken ∈ wsL_law := ch20 _ (List.mem_of_getElem? (i := 12) rfl)
theorem wk20_13 : Cond.code yX9_nextToken cX9_nextToken 2 none ∈ wsL_law := ch20 _ (List.mem_of_getElem? (i := 13) rfl)
theorem wk20_14 : Cond.fieldLink RX9 114 "ShutDaysModel" "number" "I" ∈ wsL_law := ch20 _ (List.mem_of_getElem? (i := 14) rfl)
theorem wk20_15 : Cond.constant RX9 117 (99999) ∈ wsL_law := ch20 _ (List.mem_of_getElem? (i := 15) rfl)
theorem wk20_16 : Cond.fieldLink RX9 121 "ShutDaysModel" "word" "J" ∈ wsL_law := ch20 _ (List.mem_of_getElem? (i := 16) rfl)
theorem wk20_17 : Cond.constantLong RX9 125 (1152921504606846976) ∈ wsL_law := ch20 _ (List.mem_of_getElem? (i := 17) rfl)
theorem wk20_18 : Cond.methodLink RX9 101 yX9_byteAt ∈ wsL_law := ch20 _ (List.mem_of_getElem? (i := 18) rfl)
theorem wk20_19 : Cond.instanceMethod yX9_byteAt ∈ wsL_law := ch20 _ (List.mem_of_getElem? (i := 19) rfl)
theorem wk20_20 : Cond.selects RX9 yX9_byteAt yX9_byteAt ∈ wsL_law := ch20 _ (List.mem_of_getElem? (i := 20) rfl)
theorem wk20_21 : Cond.code yX9_byteAt cX9_byteAt 2 (some .int) ∈ wsL_law := ch20 _ (List.mem_of_getElem? (i := 21) rfl)
theorem wk20_22 : Cond.methodLink RX9 111 yX9_isFigure ∈ wsL_law := ch20 _ (List.mem_of_getElem? (i := 22) rfl)
theorem wk20_23 : Cond.static yX9_isFigure ∈ wsL_law := ch20 _ (List.mem_of_getElem? (i := 23) rfl)
theorem wk21_0 : Cond.code yX9_isFigure cX9_isFigure 1 (some .boolean) ∈ wsL_law := ch21 _ (List.mem_of_getElem? (i := 0) rfl)
theorem wk21_1 : Cond.methodLink RX9 118 yX9_isLetterByte ∈ wsL_law := ch21 _ (List.mem_of_getElem? (i := 1) rfl)
theorem wk21_2 : Cond.static yX9_isLetterByte ∈ wsL_law := ch21 _ (List.mem_of_getElem? (i := 2) rfl)
theorem wk21_3 : Cond.code yX9_isLetterByte cX9_isLetterByte 1 (some .boolean) ∈ wsL_law := ch21 _ (List.mem_of_getElem? (i := 3) rfl)
theorem wk21_4 : Cond.methodLink RX9 127 yX9_isSign ∈ wsL_law := ch21 _ (List.mem_of_getElem? (i := 4) rfl)
theorem wk21_5 : Cond.static yX9_isSign ∈ wsL_law := ch21 _ (List.mem_of_getElem? (i := 5) rfl)
theorem wk21_6 : Cond.code yX9_isSign cX9_isSign 1 (some .boolean) ∈ wsL_law := ch21 _ (List.mem_of_getElem? (i := 6) rfl)
theorem wk21_7 : Cond.methodLink RX9 256 yX9_clause ∈ wsL_law := ch21 _ (List.mem_of_getElem? (i := 7) rfl)
theorem wk21_8 : Cond.instanceMethod yX9_clause ∈ wsL_law := ch21 _ (List.mem_of_getElem? (i := 8) rfl)
theorem wk21_9 : Cond.selects RX9 yX9_clause yX9_clause ∈ wsL_law := ch21 _ (List.mem_of_getElem? (i := 9) rfl)
theorem wk21_10 : Cond.code yX9_clause cX9_clause 5 (some .int) ∈ wsL_law := ch21 _ (List.mem_of_getElem? (i := 10) rfl)
theorem wk21_11 : Cond.fieldLink RX9 191 "ShutDaysModel" "sort0" "I" ∈ wsL_law := ch21 _ (List.mem_of_getElem? (i := 11) rfl)
theorem wk21_12 : Cond.methodLink RX9 247 yX9_sortOf ∈ wsL_law := ch21 _ (List.mem_of_getElem? (i := 12) rfl)
theorem wk21_13 : Cond.instanceMethod yX9_sortOf ∈ wsL_law := ch21 _ (List.mem_of_getElem? (i := 13) rfl)
theorem wk21_14 : Cond.selects RX9 yX9_sortOf yX9_sortOf ∈ wsL_law := ch21 _ (List.mem_of_getElem? (i := 14) rfl)
theorem wk21_15 : Cond.code yX9_sortOf cX9_sortOf 1 (some .int) ∈ wsL_law := ch21 _ (List.mem_of_getElem? (i := 15) rfl)
theorem wk21_16 : Cond.methodLink RX9 142 yX9_w5 ∈ wsL_law := ch21 _ (List.mem_of_getElem? (i := 16) rfl)
theorem wk21_17 : Cond.static yX9_w5 ∈ wsL_law := ch21 _ (List.mem_of_getElem? (i := 17) rfl)
theorem wk21_18 : Cond.code yX9_w5 cX9_w5 5 (some .long) ∈ wsL_law := ch21 _ (List.mem_of_getElem? (i := 18) rfl)
theorem wk21_19 : Cond.methodLink RX9 138 yX9_w4 ∈ wsL_law := ch21 _ (List.mem_of_getElem? (i := 19) rfl)
theorem wk21_20 : Cond.static yX9_w4 ∈ wsL_law := ch21 _ (List.mem_of_getElem? (i := 20) rfl)
theorem wk21_21 : Cond.code yX9_w4 cX9_w4 4 (some .long) ∈ wsL_law := ch21 _ (List.mem_of_getElem? (i := 21) rfl)
theorem wk21_22 : Cond.methodLink RX9 134 yX9_w3 ∈ wsL_law := ch21 _ (List.mem_of_getElem? (i := 22) rfl)
theorem wk21_23 : Cond.static yX9_w3 ∈ wsL_law := ch21 _ (List.mem_of_getElem? (i := 23) rfl)
theorem wk22_0 : Cond.code yX9_w3 cX9_w3 3 (some .long) ∈ wsL_law := ch22 _ (List.mem_of_getElem? (i := 0) rfl)
theorem wk22_1 : Cond.methodLink RX9 130 yX9_w2 ∈ wsL_law := ch22 _ (List.mem_of_getElem? (i := 1) rfl)
theorem wk22_2 : Cond.static yX9_w2 ∈ wsL_law := ch22 _ (List.mem_of_getElem? (i := 2) rfl)
theorem wk22_3 : Cond.code yX9_w2 cX9_w2 2 (some .long) ∈ wsL_law := ch22 _ (List.mem_of_getElem? (i := 3) rfl)
theorem wk22_4 : Cond.methodLink RX9 200 yX9_isWord ∈ wsL_law := ch22 _ (List.mem_of_getElem? (i := 4) rfl)
theorem wk22_5 : Cond.instanceMethod yX9_isWord ∈ wsL_law := ch22 _ (List.mem_of_getElem? (i := 5) rfl)
theorem wk22_6 : Cond.selects RX9 yX9_isWord yX9_isWord ∈ wsL_law := ch22 _ (List.mem_of_getElem? (i := 6) rfl)
theorem wk22_7 : Cond.code yX9_isWord cX9_isWord 3 (some .boolean) ∈ wsL_law := ch22 _ (List.mem_of_getElem? (i := 7) rfl)
theorem wk22_8 : Cond.methodLink RX9 160 yX9_w6 ∈ wsL_law := ch22 _ (List.mem_of_getElem? (i := 8) rfl)
theorem wk22_9 : Cond.static yX9_w6 ∈ wsL_law := ch22 _ (List.mem_of_getElem? (i := 9) rfl)
theorem wk22_10 : Cond.code yX9_w6 cX9_w6 6 (some .long) ∈ wsL_law := ch22 _ (List.mem_of_getElem? (i := 10) rfl)
theorem wk22_11 : Cond.methodLink RX9 80 yX9_has ∈ wsL_law := ch22 _ (List.mem_of_getElem? (i := 11) rfl)
theorem wk22_12 : Cond.static yX9_has ∈ wsL_law := ch22 _ (List.mem_of_getElem? (i := 12) rfl)
theorem wk22_13 : Cond.code yX9_has cX9_has 2 (some .boolean) ∈ wsL_law := ch22 _ (List.mem_of_getElem? (i := 13) rfl)
theorem wk22_14 : Cond.methodLink RX9 253 yX9_body ∈ wsL_law := ch22 _ (List.mem_of_getElem? (i := 14) rfl)
theorem wk22_15 : Cond.instanceMethod yX9_body ∈ wsL_law := ch22 _ (List.mem_of_getElem? (i := 15) rfl)
theorem wk22_16 : Cond.selects RX9 yX9_body yX9_body ∈ wsL_law := ch22 _ (List.mem_of_getElem? (i := 16) rfl)
theorem wk22_17 : Cond.code yX9_body cX9_body 4 (some .int) ∈ wsL_law := ch22 _ (List.mem_of_getElem? (i := 17) rfl)
theorem wk22_18 : Cond.methodLink RX9 240 yX9_houseClause ∈ wsL_law := ch22 _ (List.mem_of_getElem? (i := 18) rfl)
theorem wk22_19 : Cond.instanceMethod yX9_houseClause ∈ wsL_law := ch22 _ (List.mem_of_getElem? (i := 19) rfl)
theorem wk22_20 : Cond.selects RX9 yX9_houseClause yX9_houseClause ∈ wsL_law := ch22 _ (List.mem_of_getElem? (i := 20) rfl)
theorem wk22_21 : Cond.code yX9_houseClause cX9_houseClause 3 (some .int) ∈ wsL_law := ch22 _ (List.mem_of_getElem? (i := 21) rfl)
theorem wk22_22 : Cond.methodLink RX9 228 yX9_figure ∈ wsL_law := ch22 _ (List.mem_of_getElem? (i := 22) rfl)
theorem wk22_23 : Cond.instanceMethod yX9_figure ∈ wsL_law := ch22 _ (List.mem_of_getElem? (i := 23) rfl)
theorem wk23_0 : Cond.selects RX9 yX9_figure yX9_figure ∈ wsL_law := ch23 _ (List.mem_of_getElem? (i := 0) rfl)
theorem wk23_1 : Cond.code yX9_figure cX9_figure 4 (some .int) ∈ wsL_law := ch23 _ (List.mem_of_getElem? (i := 1) rfl)
theorem wk23_2 : Cond.methodLink RX9 236 yX9_worded ∈ wsL_law := ch23 _ (List.mem_of_getElem? (i := 2) rfl)
theorem wk23_3 : Cond.instanceMethod yX9_worded ∈ wsL_law := ch23 _ (List.mem_of_getElem? (i := 3) rfl)
theorem wk23_4 : Cond.selects RX9 yX9_worded yX9_worded ∈ wsL_law := ch23 _ (List.mem_of_getElem? (i := 4) rfl)
theorem wk23_5 : Cond.code yX9_worded cX9_worded 5 (some .int) ∈ wsL_law := ch23 _ (List.mem_of_getElem? (i := 5) rfl)
theorem wk23_6 : Cond.methodLink RX9 156 yX9_isFriends ∈ wsL_law := ch23 _ (List.mem_of_getElem? (i := 6) rfl)
theorem wk23_7 : Cond.instanceMethod yX9_isFriends ∈ wsL_law := ch23 _ (List.mem_of_getElem? (i := 7) rfl)
theorem wk23_8 : Cond.selects RX9 yX9_isFriends yX9_isFriends ∈ wsL_law := ch23 _ (List.mem_of_getElem? (i := 8) rfl)
theorem wk23_9 : Cond.code yX9_isFriends cX9_isFriends 1 (some .boolean) ∈ wsL_law := ch23 _ (List.mem_of_getElem? (i := 9) rfl)
theorem wk23_10 : Cond.methodLink RX9 152 yX9_isLong ∈ wsL_law := ch23 _ (List.mem_of_getElem? (i := 10) rfl)
theorem wk23_11 : Cond.instanceMethod yX9_isLong ∈ wsL_law := ch23 _ (List.mem_of_getElem? (i := 11) rfl)
theorem wk23_12 : Cond.selects RX9 yX9_isLong yX9_isLong ∈ wsL_law := ch23 _ (List.mem_of_getElem? (i := 12) rfl)
theorem wk23_13 : Cond.code yX9_isLong cX9_isLong 5 (some .boolean) ∈ wsL_law := ch23 _ (List.mem_of_getElem? (i := 13) rfl)
theorem wk23_14 : Cond.methodLink RX9 243 yX9_lawClause ∈ wsL_law := ch23 _ (List.mem_of_getElem? (i := 14) rfl)
theorem wk23_15 : Cond.instanceMethod yX9_lawClause ∈ wsL_law := ch23 _ (List.mem_of_getElem? (i := 15) rfl)
theorem wk23_16 : Cond.selects RX9 yX9_lawClause yX9_lawClause ∈ wsL_law := ch23 _ (List.mem_of_getElem? (i := 16) rfl)
theorem wk23_17 : Cond.code yX9_lawClause cX9_lawClause 4 (some .int) ∈ wsL_law := ch23 _ (List.mem_of_getElem? (i := 17) rfl)
theorem wk23_18 : Cond.methodLink RX9 232 yX9_parsed ∈ wsL_law := ch23 _ (List.mem_of_getElem? (i := 18) rfl)
theorem wk23_19 : Cond.instanceMethod yX9_parsed ∈ wsL_law := ch23 _ (List.mem_of_getElem? (i := 19) rfl)
theorem wk23_20 : Cond.selects RX9 yX9_parsed yX9_parsed ∈ wsL_law := ch23 _ (List.mem_of_getElem? (i := 20) rfl)
theorem wk23_21 : Cond.code yX9_parsed cX9_parsed 3 (some .int) ∈ wsL_law := ch23 _ (List.mem_of_getElem? (i := 21) rfl)
theorem wk23_22 : Cond.fieldLink RX9 164 "ShutDaysModel" "piled" "I" ∈ wsL_law := ch23 _ (List.mem_of_getElem? (i := 22) rfl)
theorem wk23_23 : Cond.fieldLink RX9 174 "ShutDaysModel" "opens" "I" ∈ wsL_law := ch23 _ (List.mem_of_getElem? (i := 23) rfl)
theorem wk24_0 : Cond.fieldLink RX9 210 "ShutDaysModel" "isWhole" "Z" ∈ wsL_law := ch24 _ (List.mem_of_getElem? (i := 0) rfl)
theorem wk24_1 : Cond.fieldLink RX9 177 "ShutDaysModel" "isEither" "Z" ∈ wsL_law := ch24 _ (List.mem_of_getElem? (i := 1) rfl)
theorem wk24_2 : Cond.methodLink RX9 222 yX9_behindOne ∈ wsL_law := ch24 _ (List.mem_of_getElem? (i := 2) rfl)
theorem wk24_3 : Cond.instanceMethod yX9_behindOne ∈ wsL_law := ch24 _ (List.mem_of_getElem? (i := 3) rfl)
theorem wk24_4 : Cond.selects RX9 yX9_behindOne yX9_behindOne ∈ wsL_law := ch24 _ (List.mem_of_getElem? (i := 4) rfl)
theorem wk24_5 : Cond.code yX9_behindOne cX9_behindOne 2 (some .int) ∈ wsL_law := ch24 _ (List.mem_of_getElem? (i := 5) rfl)
theorem wk24_6 : Cond.methodLink RX9 219 yX9_betweenOf ∈ wsL_law := ch24 _ (List.mem_of_getElem? (i := 6) rfl)
theorem wk24_7 : Cond.instanceMethod yX9_betweenOf ∈ wsL_law := ch24 _ (List.mem_of_getElem? (i := 7) rfl)
theorem wk24_8 : Cond.selects RX9 yX9_betweenOf yX9_betweenOf ∈ wsL_law := ch24 _ (List.mem_of_getElem? (i := 8) rfl)
theorem wk24_9 : Cond.code yX9_betweenOf cX9_betweenOf 1 (some .int) ∈ wsL_law := ch24 _ (List.mem_of_getElem? (i := 9) rfl)
theorem wk24_10 : Cond.methodLink RX9 181 yX9_isShut ∈ wsL_law := ch24 _ (List.mem_of_getElem? (i := 10) rfl)
theorem wk24_11 : Cond.instanceMethod yX9_isShut ∈ wsL_law := ch24 _ (List.mem_of_getElem? (i := 11) rfl)
theorem wk24_12 : Cond.selects RX9 yX9_isShut yX9_isShut ∈ wsL_law := ch24 _ (List.mem_of_getElem? (i := 12) rfl)
theorem wk24_13 : Cond.code yX9_isShut cX9_isShut 2 (some .boolean) ∈ wsL_law := ch24 _ (List.mem_of_getElem? (i := 13) rfl)
theorem wk24_14 : Cond.methodLink RX9 213 yX9_isCompared ∈ wsL_law := ch24 _ (List.mem_of_getElem? (i := 14) rfl)
theorem wk24_15 : Cond.instanceMethod yX9_isCompared ∈ wsL_law := ch24 _ (List.mem_of_getElem? (i := 15) rfl)
theorem wk24_16 : Cond.selects RX9 yX9_isCompared yX9_isCompared ∈ wsL_law := ch24 _ (List.mem_of_getElem? (i := 16) rfl)
theorem wk24_17 : Cond.code yX9_isCompared cX9_isCompared 2 (some .boolean) ∈ wsL_law := ch24 _ (List.mem_of_getElem? (i := 17) rfl)
theorem wk24_18 : Cond.methodLink RX9 167 yX9_rank ∈ wsL_law := ch24 _ (List.mem_of_getElem? (i := 18) rfl)
theorem wk24_19 : Cond.static yX9_rank ∈ wsL_law := ch24 _ (List.mem_of_getElem? (i := 19) rfl)
theorem wk24_20 : Cond.code yX9_rank cX9_rank 1 (some .int) ∈ wsL_law := ch24 _ (List.mem_of_getElem? (i := 20) rfl)
theorem wk24_21 : Cond.methodLink RX9 216 yX9_compareOf ∈ wsL_law := ch24 _ (List.mem_of_getElem? (i := 21) rfl)
theorem wk24_22 : Cond.instanceMethod yX9_compareOf ∈ wsL_law := ch24 _ (List.mem_of_getElem? (i := 22) rfl)
theorem wk24_23 : Cond.selects RX9 yX9_compareOf yX9_compareOf ∈ wsL_law := ch24 _ (List.mem_of_getElem? (i := 23) rfl)
theorem wk25_0 : Cond.code yX9_compareOf cX9_compareOf 1 (some .int) ∈ wsL_law := ch25 _ (List.mem_of_getElem? (i := 0) rfl)
theorem wk25_1 : Cond.methodLink RX9 207 yX9_settle ∈ wsL_law := ch25 _ (List.mem_of_getElem? (i := 1) rfl)
theorem wk25_2 : Cond.instanceMethod yX9_settle ∈ wsL_law := ch25 _ (List.mem_of_getElem? (i := 2) rfl)
theorem wk25_3 : Cond.selects RX9 yX9_settle yX9_settle ∈ wsL_law := ch25 _ (List.mem_of_getElem? (i := 3) rfl)
theorem wk25_4 : Cond.code yX9_settle cX9_settle 2 none ∈ wsL_law := ch25 _ (List.mem_of_getElem? (i := 4) rfl)
theorem wk25_5 : Cond.methodLink RX9 170 yX9_emit ∈ wsL_law := ch25 _ (List.mem_of_getElem? (i := 5) rfl)
theorem wk25_6 : Cond.instanceMethod yX9_emit ∈ wsL_law := ch25 _ (List.mem_of_getElem? (i := 6) rfl)
theorem wk25_7 : Cond.selects RX9 yX9_emit yX9_emit ∈ wsL_law := ch25 _ (List.mem_of_getElem? (i := 7) rfl)
theorem wk25_8 : Cond.code yX9_emit cX9_emit 3 none ∈ wsL_law := ch25 _ (List.mem_of_getElem? (i := 8) rfl)
theorem wk25_9 : Cond.methodLink RX9 194 yX9_endOne ∈ wsL_law := ch25 _ (List.mem_of_getElem? (i := 9) rfl)
theorem wk25_10 : Cond.instanceMethod yX9_endOne ∈ wsL_law := ch25 _ (List.mem_of_getElem? (i := 10) rfl)
theorem wk25_11 : Cond.selects RX9 yX9_endOne yX9_endOne ∈ wsL_law := ch25 _ (List.mem_of_getElem? (i := 11) rfl)
theorem wk25_12 : Cond.code yX9_endOne cX9_endOne 1 (some .int) ∈ wsL_law := ch25 _ (List.mem_of_getElem? (i := 12) rfl)
theorem wk25_13 : Cond.methodLink RX9 225 yX9_beginOne ∈ wsL_law := ch25 _ (List.mem_of_getElem? (i := 13) rfl)
theorem wk25_14 : Cond.instanceMethod yX9_beginOne ∈ wsL_law := ch25 _ (List.mem_of_getElem? (i := 14) rfl)
theorem wk25_15 : Cond.selects RX9 yX9_beginOne yX9_beginOne ∈ wsL_law := ch25 _ (List.mem_of_getElem? (i := 15) rfl)
theorem wk25_16 : Cond.code yX9_beginOne cX9_beginOne 2 (some .int) ∈ wsL_law := ch25 _ (List.mem_of_getElem? (i := 16) rfl)
theorem wk25_17 : Cond.methodLink RX9 187 yX9_nameOf ∈ wsL_law := ch25 _ (List.mem_of_getElem? (i := 17) rfl)
theorem wk25_18 : Cond.instanceMethod yX9_nameOf ∈ wsL_law := ch25 _ (List.mem_of_getElem? (i := 18) rfl)
theorem wk25_19 : Cond.selects RX9 yX9_nameOf yX9_nameOf ∈ wsL_law := ch25 _ (List.mem_of_getElem? (i := 19) rfl)
theorem wk25_20 : Cond.code yX9_nameOf cX9_nameOf 1 (some .int) ∈ wsL_law := ch25 _ (List.mem_of_getElem? (i := 20) rfl)
theorem wk25_21 : Cond.methodLink RX9 197 yX9_opened ∈ wsL_law := ch25 _ (List.mem_of_getElem? (i := 21) rfl)
theorem wk25_22 : Cond.instanceMethod yX9_opened ∈ wsL_law := ch25 _ (List.mem_of_getElem? (i := 22) rfl)
theorem wk25_23 : Cond.selects RX9 yX9_opened yX9_opened ∈ wsL_law := ch25 _ (List.mem_of_getElem? (i := 23) rfl)
theorem wk26_0 : Cond.code yX9_opened cX9_opened 2 (some .int) ∈ wsL_law := ch26 _ (List.mem_of_getElem? (i := 0) rfl)
theorem wk26_1 : Cond.methodLink RX9 204 yX9_isAskAhead ∈ wsL_law := ch26 _ (List.mem_of_getElem? (i := 1) rfl)
theorem wk26_2 : Cond.instanceMethod yX9_isAskAhead ∈ wsL_law := ch26 _ (List.mem_of_getElem? (i := 2) rfl)
theorem wk26_3 : Cond.selects RX9 yX9_isAskAhead yX9_isAskAhead ∈ wsL_law := ch26 _ (List.mem_of_getElem? (i := 3) rfl)
theorem wk26_4 : Cond.code yX9_isAskAhead cX9_isAskAhead 1 (some .boolean) ∈ wsL_law := ch26 _ (List.mem_of_getElem? (i := 4) rfl)
theorem wk26_5 : Cond.methodLink RL 32 yX8_fault ∈ wsL_law := ch26 _ (List.mem_of_getElem? (i := 5) rfl)
theorem wk26_6 : Cond.instanceMethod yX8_fault ∈ wsL_law := ch26 _ (List.mem_of_getElem? (i := 6) rfl)
theorem wk26_7 : Cond.selects RX8 yX8_fault yX8_fault ∈ wsL_law := ch26 _ (List.mem_of_getElem? (i := 7) rfl)
theorem wk26_8 : Cond.code yX8_fault cX8_fault 2 (some .int) ∈ wsL_law := ch26 _ (List.mem_of_getElem? (i := 8) rfl)
theorem wk26_9 : Cond.fieldLink RX8 127 "ShutDays$Reader" "place" "I" ∈ wsL_law := ch26 _ (List.mem_of_getElem? (i := 9) rfl)
theorem wk26_10 : Cond.methodLink RL 35 yX9_fault ∈ wsL_law := ch26 _ (List.mem_of_getElem? (i := 10) rfl)
theorem wk26_11 : Cond.instanceMethod yX9_fault ∈ wsL_law := ch26 _ (List.mem_of_getElem? (i := 11) rfl)
theorem wk26_12 : Cond.selects RX9 yX9_fault yX9_fault ∈ wsL_law := ch26 _ (List.mem_of_getElem? (i := 12) rfl)
theorem wk26_13 : Cond.code yX9_fault cX9_fault 2 (some .int) ∈ wsL_law := ch26 _ (List.mem_of_getElem? (i := 13) rfl)
theorem wk26_14 : Cond.methodLink RL 36 yX8_by ∈ wsL_law := ch26 _ (List.mem_of_getElem? (i := 14) rfl)
theorem wk26_15 : Cond.instanceMethod yX8_by ∈ wsL_law := ch26 _ (List.mem_of_getElem? (i := 15) rfl)
theorem wk26_16 : Cond.selects RX8 yX8_by yX8_by ∈ wsL_law := ch26 _ (List.mem_of_getElem? (i := 16) rfl)
theorem wk26_17 : Cond.code yX8_by cX8_by 2 (some .boolean) ∈ wsL_law := ch26 _ (List.mem_of_getElem? (i := 17) rfl)
theorem wk26_18 : Cond.fieldLink RX8 133 "ShutDays$World" "ruling" "I" ∈ wsL_law := ch26 _ (List.mem_of_getElem? (i := 18) rfl)
theorem wk26_19 : Cond.methodLink RX8 130 yX8_isText ∈ wsL_law := ch26 _ (List.mem_of_getElem? (i := 19) rfl)
theorem wk26_20 : Cond.instanceMethod yX8_isText ∈ wsL_law := ch26 _ (List.mem_of_getElem? (i := 20) rfl)
theorem wk26_21 : Cond.selects RX8 yX8_isText yX8_isText ∈ wsL_law := ch26 _ (List.mem_of_getElem? (i := 21) rfl)
theorem wk26_22 : Cond.code yX8_isText cX8_isText 2 (some .boolean) ∈ wsL_law := ch26 _ (List.mem_of_getElem? (i := 22) rfl)
theorem wk26_23 : Cond.methodLink RL 40 yX9_by ∈ wsL_law := ch26 _ (List.mem_of_getElem? (i := 23) rfl)
theorem wk27_0 : Cond.instanceMethod yX9_by ∈ wsL_law := ch27 _ (List.mem_of_getElem? (i := 0) rfl)
theorem wk27_1 : Cond.selects RX9 yX9_by yX9_by ∈ wsL_law := ch27 _ (List.mem_of_getElem? (i := 1) rfl)
theorem wk27_2 : Cond.code yX9_by cX9_by 2 (some .boolean) ∈ wsL_law := ch27 _ (List.mem_of_getElem? (i := 2) rfl)
theorem wk27_3 : Cond.methodLink RL 41 yX8_knock ∈ wsL_law := ch27 _ (List.mem_of_getElem? (i := 3) rfl)
theorem wk27_4 : Cond.instanceMethod yX8_knock ∈ wsL_law := ch27 _ (List.mem_of_getElem? (i := 4) rfl)
theorem wk27_5 : Cond.selects RX8 yX8_knock yX8_knock ∈ wsL_law := ch27 _ (List.mem_of_getElem? (i := 5) rfl)
theorem wk27_6 : Cond.code yX8_knock cX8_knock 2 (some .int) ∈ wsL_law := ch27 _ (List.mem_of_getElem? (i := 6) rfl)
theorem wk27_7 : Cond.methodLink RX8 136 yX6_lives ∈ wsL_law := ch27 _ (List.mem_of_getElem? (i := 7) rfl)
theorem wk27_8 : Cond.instanceMethod yX6_lives ∈ wsL_law := ch27 _ (List.mem_of_getElem? (i := 8) rfl)
theorem wk27_9 : Cond.selects RX6 yX6_lives yX6_lives ∈ wsL_law := ch27 _ (List.mem_of_getElem? (i := 9) rfl)
theorem wk27_10 : Cond.code yX6_lives cX6_lives 2 (some .boolean) ∈ wsL_law := ch27 _ (List.mem_of_getElem? (i := 10) rfl)
theorem wk27_11 : Cond.methodLink RX6 56 yX6_told ∈ wsL_law := ch27 _ (List.mem_of_getElem? (i := 11) rfl)
theorem wk27_12 : Cond.instanceMethod yX6_told ∈ wsL_law := ch27 _ (List.mem_of_getElem? (i := 12) rfl)
theorem wk27_13 : Cond.selects RX6 yX6_told yX6_told ∈ wsL_law := ch27 _ (List.mem_of_getElem? (i := 13) rfl)
theorem wk27_14 : Cond.code yX6_told cX6_told 2 (some .boolean) ∈ wsL_law := ch27 _ (List.mem_of_getElem? (i := 14) rfl)
theorem wk27_15 : Cond.methodLink RX6 60 yX6_isGone ∈ wsL_law := ch27 _ (List.mem_of_getElem? (i := 15) rfl)
theorem wk27_16 : Cond.instanceMethod yX6_isGone ∈ wsL_law := ch27 _ (List.mem_of_getElem? (i := 16) rfl)
theorem wk27_17 : Cond.selects RX6 yX6_isGone yX6_isGone ∈ wsL_law := ch27 _ (List.mem_of_getElem? (i := 17) rfl)
theorem wk27_18 : Cond.code yX6_isGone cX6_isGone 2 (some .boolean) ∈ wsL_law := ch27 _ (List.mem_of_getElem? (i := 18) rfl)
theorem wk27_19 : Cond.fieldLink RX6 50 "ShutDays$Town" "gone" "I" ∈ wsL_law := ch27 _ (List.mem_of_getElem? (i := 19) rfl)
theorem wk27_20 : Cond.methodLink RX8 139 yX7_keepStep ∈ wsL_law := ch27 _ (List.mem_of_getElem? (i := 20) rfl)
theorem wk27_21 : Cond.instanceMethod yX7_keepStep ∈ wsL_law := ch27 _ (List.mem_of_getElem? (i := 21) rfl)
theorem wk27_22 : Cond.selects RX7 yX7_keepStep yX7_keepStep ∈ wsL_law := ch27 _ (List.mem_of_getElem? (i := 22) rfl)
theorem wk27_23 : Cond.code yX7_keepStep cX7_keepStep 1 none ∈ wsL_law := ch27 _ (List.mem_of_getElem? (i := 23) rfl)
theorem wk28_0 : Cond.fieldLink RX7 46 "ShutDays$World" "eldestStep" "I" ∈ wsL_law := ch28 _ (List.mem_of_getElem? (i := 0) rfl)
theorem wk28_1 : Cond.fieldLink RX7 49 "ShutDays$World" "stepCount" "I" ∈ wsL_law := ch28 _ (List.mem_of_getElem? (i := 1) rfl)
theorem wk28_2 : Cond.methodLink RX7 42 yX6_copyFrom ∈ wsL_law := ch28 _ (List.mem_of_getElem? (i := 2) rfl)
theorem wk28_3 : Cond.instanceMethod yX6_copyFrom ∈ wsL_law := ch28 _ (List.mem_of_getElem? (i := 3) rfl)
theorem wk28_4 : Cond.selects RX6 yX6_copyFrom yX6_copyFrom ∈ wsL_law := ch28 _ (List.mem_of_getElem? (i := 4) rfl)
theorem wk28_5 : Cond.code yX6_copyFrom cX6_copyFrom 2 none ∈ wsL_law := ch28 _ (List.mem_of_getElem? (i := 5) rfl)
theorem wk28_6 : Cond.methodLink RX6 28 yX6_returnTo ∈ wsL_law := ch28 _ (List.mem_of_getElem? (i := 6) rfl)
theorem wk28_7 : Cond.instanceMethod yX6_returnTo ∈ wsL_law := ch28 _ (List.mem_of_getElem? (i := 7) rfl)
theorem wk28_8 : Cond.selects RX6 yX6_returnTo yX6_returnTo ∈ wsL_law := ch28 _ (List.mem_of_getElem? (i := 8) rfl)
theorem wk28_9 : Cond.code yX6_returnTo cX6_returnTo 3 none ∈ wsL_law := ch28 _ (List.mem_of_getElem? (i := 9) rfl)
theorem wk28_10 : Cond.methodLink RX6 35 Lib.Math.min.name ∈ wsL_law := ch28 _ (List.mem_of_getElem? (i := 10) rfl)
theorem wk28_11 : Cond.methodLink RX6 41 arraycopyName ∈ wsL_law := ch28 _ (List.mem_of_getElem? (i := 11) rfl)
theorem wk28_12 : Cond.fieldLink RX6 47 "ShutDays$Town" "written" "I" ∈ wsL_law := ch28 _ (List.mem_of_getElem? (i := 12) rfl)
theorem wk28_13 : Cond.fieldLink RX6 53 "ShutDays$Town" "day" "I" ∈ wsL_law := ch28 _ (List.mem_of_getElem? (i := 13) rfl)
theorem wk28_14 : Cond.methodLink RX8 142 yX8_knockAt ∈ wsL_law := ch28 _ (List.mem_of_getElem? (i := 14) rfl)
theorem wk28_15 : Cond.instanceMethod yX8_knockAt ∈ wsL_law := ch28 _ (List.mem_of_getElem? (i := 15) rfl)
theorem wk28_16 : Cond.selects RX8 yX8_knockAt yX8_knockAt ∈ wsL_law := ch28 _ (List.mem_of_getElem? (i := 16) rfl)
theorem wk28_17 : Cond.code yX8_knockAt cX8_knockAt 4 (some .int) ∈ wsL_law := ch28 _ (List.mem_of_getElem? (i := 17) rfl)
theorem wk28_18 : Cond.fieldLink RX8 166 "ShutDays$Town" "day" "I" ∈ wsL_law := ch28 _ (List.mem_of_getElem? (i := 18) rfl)
theorem wk28_19 : Cond.methodLink RX8 172 yX6_date ∈ wsL_law := ch28 _ (List.mem_of_getElem? (i := 19) rfl)
theorem wk28_20 : Cond.instanceMethod yX6_date ∈ wsL_law := ch28 _ (List.mem_of_getElem? (i := 20) rfl)
theorem wk28_21 : Cond.selects RX6 yX6_date yX6_date ∈ wsL_law := ch28 _ (List.mem_of_getElem? (i := 21) rfl)
theorem wk28_22 : Cond.code yX6_date cX6_date 1 (some .int) ∈ wsL_law := ch28 _ (List.mem_of_getElem? (i := 22) rfl)
theorem wk28_23 : Cond.methodLink RX8 210 yX6_isShut ∈ wsL_law := ch28 _ (List.mem_of_getElem? (i := 23) rfl)
theorem wk29_0 : Cond.instanceMethod yX6_isShut ∈ wsL_law := ch29 _ (List.mem_of_getElem? (i := 0) rfl)
theorem wk29_1 : Cond.selects RX6 yX6_isShut yX6_isShut ∈ wsL_law := ch29 _ (List.mem_of_getElem? (i := 1) rfl)
theorem wk29_2 : Cond.code yX6_isShut cX6_isShut 3 (some .boolean) ∈ wsL_law := ch29 _ (List.mem_of_getElem? (i := 2) rfl)
theorem wk29_3 : Cond.methodLink RX8 367 yX6_writeKnock ∈ wsL_law := ch29 _ (List.mem_of_getElem? (i := 3) rfl)
theorem wk29_4 : Cond.instanceMethod yX6_writeKnock ∈ wsL_law := ch29 _ (List.mem_of_getElem? (i := 4) rfl)
theorem wk29_5 : Cond.selects RX6 yX6_writeKnock yX6_writeKnock ∈ wsL_law := ch29 _ (List.mem_of_getElem? (i := 5) rfl)
theorem wk29_6 : Cond.code yX6_writeKnock cX6_writeKnock 3 none ∈ wsL_law := ch29 _ (List.mem_of_getElem? (i := 6) rfl)
theorem wk29_7 : Cond.methodLink RX8 371 yX6_befriend ∈ wsL_law := ch29 _ (List.mem_of_getElem? (i := 7) rfl)
theorem wk29_8 : Cond.instanceMethod yX6_befriend ∈ wsL_law := ch29 _ (List.mem_of_getElem? (i := 8) rfl)
theorem wk29_9 : Cond.selects RX6 yX6_befriend yX6_befriend ∈ wsL_law := ch29 _ (List.mem_of_getElem? (i := 9) rfl)
theorem wk29_10 : Cond.code yX6_befriend cX6_befriend 3 none ∈ wsL_law := ch29 _ (List.mem_of_getElem? (i := 10) rfl)
theorem wk29_11 : Cond.methodLink RX6 76 Lib.Math.max.name ∈ wsL_law := ch29 _ (List.mem_of_getElem? (i := 11) rfl)
theorem wk29_12 : Cond.methodLink RX8 351 yX3_lookAt ∈ wsL_law := ch29 _ (List.mem_of_getElem? (i := 12) rfl)
theorem wk29_13 : Cond.instanceMethod yX3_lookAt ∈ wsL_law := ch29 _ (List.mem_of_getElem? (i := 13) rfl)
theorem wk29_14 : Cond.selects RX3 yX3_lookAt yX3_lookAt ∈ wsL_law := ch29 _ (List.mem_of_getElem? (i := 14) rfl)
theorem wk29_15 : Cond.code yX3_lookAt cX3_lookAt 4 none ∈ wsL_law := ch29 _ (List.mem_of_getElem? (i := 15) rfl)
theorem wk29_16 : Cond.fieldLink RX3 24 "ShutDays$Laws" "open" "I" ∈ wsL_law := ch29 _ (List.mem_of_getElem? (i := 16) rfl)
theorem wk29_17 : Cond.methodLink RX3 18 yX6_openOn ∈ wsL_law := ch29 _ (List.mem_of_getElem? (i := 17) rfl)
theorem wk29_18 : Cond.instanceMethod yX6_openOn ∈ wsL_law := ch29 _ (List.mem_of_getElem? (i := 18) rfl)
theorem wk29_19 : Cond.selects RX6 yX6_openOn yX6_openOn ∈ wsL_law := ch29 _ (List.mem_of_getElem? (i := 19) rfl)
theorem wk29_20 : Cond.code yX6_openOn cX6_openOn 2 (some .int) ∈ wsL_law := ch29 _ (List.mem_of_getElem? (i := 20) rfl)
theorem wk29_21 : Cond.methodLink RX6 63 yX6_living ∈ wsL_law := ch29 _ (List.mem_of_getElem? (i := 21) rfl)
theorem wk29_22 : Cond.instanceMethod yX6_living ∈ wsL_law := ch29 _ (List.mem_of_getElem? (i := 22) rfl)
theorem wk29_23 : Cond.selects RX6 yX6_living yX6_living ∈ wsL_law := ch29 _ (List.mem_of_getElem? (i := 23) rfl)
theorem wk30_0 : Cond.code yX6_living cX6_living 1 (some .int) ∈ wsL_law := ch30 _ (List.mem_of_getElem? (i := 0) rfl)
theorem wk30_1 : Cond.methodLink RX6 67 yX6_shutOn ∈ wsL_law := ch30 _ (List.mem_of_getElem? (i := 1) rfl)
theorem wk30_2 : Cond.instanceMethod yX6_shutOn ∈ wsL_law := ch30 _ (List.mem_of_getElem? (i := 2) rfl)
theorem wk30_3 : Cond.selects RX6 yX6_shutOn yX6_shutOn ∈ wsL_law := ch30 _ (List.mem_of_getElem? (i := 3) rfl)
theorem wk30_4 : Cond.code yX6_shutOn cX6_shutOn 4 (some .int) ∈ wsL_law := ch30 _ (List.mem_of_getElem? (i := 4) rfl)
theorem wk30_5 : Cond.methodLink RX3 28 yJ6_bitCount_0f7a4 ∈ wsL_law := ch30 _ (List.mem_of_getElem? (i := 5) rfl)
theorem wk30_6 : Cond.static yJ6_bitCount_0f7a4 ∈ wsL_law := ch30 _ (List.mem_of_getElem? (i := 6) rfl)
theorem wk30_7 : Cond.initialized RJ6 ∈ wsL_law := ch30 _ (List.mem_of_getElem? (i := 7) rfl)
theorem wk30_8 : Cond.code yJ6_bitCount_0f7a4 cJ6_bitCount_0f7a4 1 (some .int) ∈ wsL_law := ch30 _ (List.mem_of_getElem? (i := 8) rfl)
theorem wk30_9 : Cond.constant RJ6 265 (1431655765) ∈ wsL_law := ch30 _ (List.mem_of_getElem? (i := 9) rfl)
theorem wk30_10 : Cond.constant RJ6 266 (858993459) ∈ wsL_law := ch30 _ (List.mem_of_getElem? (i := 10) rfl)
theorem wk30_11 : Cond.constant RJ6 267 (252645135) ∈ wsL_law := ch30 _ (List.mem_of_getElem? (i := 11) rfl)
theorem wk30_12 : Cond.methodLink RX8 236 yX8_rule ∈ wsL_law := ch30 _ (List.mem_of_getElem? (i := 12) rfl)
theorem wk30_13 : Cond.instanceMethod yX8_rule ∈ wsL_law := ch30 _ (List.mem_of_getElem? (i := 13) rfl)
theorem wk30_14 : Cond.selects RX8 yX8_rule yX8_rule ∈ wsL_law := ch30 _ (List.mem_of_getElem? (i := 14) rfl)
theorem wk30_15 : Cond.code yX8_rule cX8_rule 1 (some (.object "ShutDays$Text")) ∈ wsL_law := ch30 _ (List.mem_of_getElem? (i := 15) rfl)
theorem wk30_16 : Cond.methodLink RX8 360 yX3_letsIn ∈ wsL_law := ch30 _ (List.mem_of_getElem? (i := 16) rfl)
theorem wk30_17 : Cond.instanceMethod yX3_letsIn ∈ wsL_law := ch30 _ (List.mem_of_getElem? (i := 17) rfl)
theorem wk30_18 : Cond.selects RX3 yX3_letsIn yX3_letsIn ∈ wsL_law := ch30 _ (List.mem_of_getElem? (i := 18) rfl)
theorem wk30_19 : Cond.code yX3_letsIn cX3_letsIn 4 (some .boolean) ∈ wsL_law := ch30 _ (List.mem_of_getElem? (i := 19) rfl)
theorem wk30_20 : Cond.fieldLink RX3 61 "ShutDays$Town" "friends" "[I" ∈ wsL_law := ch30 _ (List.mem_of_getElem? (i := 20) rfl)
theorem wk30_21 : Cond.methodLink RX3 37 yX5_has ∈ wsL_law := ch30 _ (List.mem_of_getElem? (i := 21) rfl)
theorem wk30_22 : Cond.methodLink RX3 58 yX6_told ∈ wsL_law := ch30 _ (List.mem_of_getElem? (i := 22) rfl)
theorem wk30_23 : Cond.methodLink RX3 45 yX3_valueOf ∈ wsL_law := ch30 _ (List.mem_of_getElem? (i := 23) rfl)
theorem wk31_0 : Cond.instanceMethod yX3_valueOf ∈ wsL_law := ch31 _ (List.mem_of_getElem? (i := 0) rfl)
theorem wk31_1 : Cond.selects RX3 yX3_valueOf yX3_valueOf ∈ wsL_law := ch31 _ (List.mem_of_getElem? (i := 1) rfl)
theorem wk31_2 : Cond.code yX3_valueOf cX3_valueOf 9 (some .int) ∈ wsL_law := ch31 _ (List.mem_of_getElem? (i := 2) rfl)
theorem wk31_3 : Cond.fieldLink RX3 74 "ShutDays$Town" "purse" "[I" ∈ wsL_law := ch31 _ (List.mem_of_getElem? (i := 3) rfl)
theorem wk31_4 : Cond.fieldLink RX3 87 "ShutDays$Town" "shut" "[I" ∈ wsL_law := ch31 _ (List.mem_of_getElem? (i := 4) rfl)
theorem wk31_5 : Cond.fieldLink RX3 90 "ShutDays$Text" "lawTo" "[I" ∈ wsL_law := ch31 _ (List.mem_of_getElem? (i := 5) rfl)
theorem wk31_6 : Cond.methodLink RX3 49 Lib.Math.min.name ∈ wsL_law := ch31 _ (List.mem_of_getElem? (i := 6) rfl)
theorem wk31_7 : Cond.fieldLink RX3 93 "ShutDays$Text" "lawFrom" "[I" ∈ wsL_law := ch31 _ (List.mem_of_getElem? (i := 7) rfl)
theorem wk31_8 : Cond.fieldLink RX3 96 "ShutDays$Text" "code" "[I" ∈ wsL_law := ch31 _ (List.mem_of_getElem? (i := 8) rfl)
theorem wk31_9 : Cond.methodLink RX3 42 yX3_openBeside ∈ wsL_law := ch31 _ (List.mem_of_getElem? (i := 9) rfl)
theorem wk31_10 : Cond.instanceMethod yX3_openBeside ∈ wsL_law := ch31 _ (List.mem_of_getElem? (i := 10) rfl)
theorem wk31_11 : Cond.selects RX3 yX3_openBeside yX3_openBeside ∈ wsL_law := ch31 _ (List.mem_of_getElem? (i := 11) rfl)
theorem wk31_12 : Cond.code yX3_openBeside cX3_openBeside 2 (some .int) ∈ wsL_law := ch31 _ (List.mem_of_getElem? (i := 12) rfl)
theorem wk31_13 : Cond.methodLink RX3 33 yX3_isOpen ∈ wsL_law := ch31 _ (List.mem_of_getElem? (i := 13) rfl)
theorem wk31_14 : Cond.instanceMethod yX3_isOpen ∈ wsL_law := ch31 _ (List.mem_of_getElem? (i := 14) rfl)
theorem wk31_15 : Cond.selects RX3 yX3_isOpen yX3_isOpen ∈ wsL_law := ch31 _ (List.mem_of_getElem? (i := 15) rfl)
theorem wk31_16 : Cond.code yX3_isOpen cX3_isOpen 2 (some .boolean) ∈ wsL_law := ch31 _ (List.mem_of_getElem? (i := 16) rfl)
theorem wk31_17 : Cond.methodLink RX3 103 yX3_joined ∈ wsL_law := ch31 _ (List.mem_of_getElem? (i := 17) rfl)
theorem wk31_18 : Cond.static yX3_joined ∈ wsL_law := ch31 _ (List.mem_of_getElem? (i := 18) rfl)
theorem wk31_19 : Cond.code yX3_joined cX3_joined 3 (some .int) ∈ wsL_law := ch31 _ (List.mem_of_getElem? (i := 19) rfl)
theorem wk31_20 : Cond.methodLink RX3 107 yX3_limited ∈ wsL_law := ch31 _ (List.mem_of_getElem? (i := 20) rfl)
theorem wk31_21 : Cond.static yX3_limited ∈ wsL_law := ch31 _ (List.mem_of_getElem? (i := 21) rfl)
theorem wk31_22 : Cond.code yX3_limited cX3_limited 2 (some .int) ∈ wsL_law := ch31 _ (List.mem_of_getElem? (i := 22) rfl)
theorem wk31_23 : Cond.constantLong RX3 117 (-1000000) ∈ wsL_law := ch31 _ (List.mem_of_getElem? (i := 23) rfl)
theorem wk32_0 : Cond.constantLong RX3 119 (1000000) ∈ wsL_law := ch32 _ (List.mem_of_getElem? (i := 0) rfl)
theorem wk32_1 : Cond.methodLink RX3 121 Lib.MathLoose.min_long.x ∈ wsL_law := ch32 _ (List.mem_of_getElem? (i := 1) rfl)
theorem wk32_2 : Cond.static Lib.MathLoose.min_long.x ∈ wsL_law := ch32 _ (List.mem_of_getElem? (i := 2) rfl)
theorem wk32_3 : Cond.code Lib.MathLoose.min_long.x Lib.MathLoose.min_long.code 4 (some .long) ∈ wsL_law := ch32 _ (List.mem_of_getElem? (i := 3) rfl)
theorem wk32_4 : Cond.methodLink RX3 124 Lib.MathLoose.max_long.x ∈ wsL_law := ch32 _ (List.mem_of_getElem? (i := 4) rfl)
theorem wk32_5 : Cond.static Lib.MathLoose.max_long.x ∈ wsL_law := ch32 _ (List.mem_of_getElem? (i := 5) rfl)
theorem wk32_6 : Cond.code Lib.MathLoose.max_long.x Lib.MathLoose.max_long.code 4 (some .long) ∈ wsL_law := ch32 _ (List.mem_of_getElem? (i := 6) rfl)
theorem wk32_7 : Cond.methodLink RX3 111 yX3_digitAt ∈ wsL_law := ch32 _ (List.mem_of_getElem? (i := 7) rfl)
theorem wk32_8 : Cond.static yX3_digitAt ∈ wsL_law := ch32 _ (List.mem_of_getElem? (i := 8) rfl)
theorem wk32_9 : Cond.code yX3_digitAt cX3_digitAt 4 (some .int) ∈ wsL_law := ch32 _ (List.mem_of_getElem? (i := 9) rfl)
theorem wk32_10 : Cond.methodLink RX3 126 Lib.Math.abs.name ∈ wsL_law := ch32 _ (List.mem_of_getElem? (i := 10) rfl)
theorem wk32_11 : Cond.static Lib.Math.abs.name ∈ wsL_law := ch32 _ (List.mem_of_getElem? (i := 11) rfl)
theorem wk32_12 : Cond.code Lib.Math.abs.name Lib.Math.abs.code 1 (some .int) ∈ wsL_law := ch32 _ (List.mem_of_getElem? (i := 12) rfl)
theorem wk32_13 : Cond.methodLink RX3 114 yX3_isSo ∈ wsL_law := ch32 _ (List.mem_of_getElem? (i := 13) rfl)
theorem wk32_14 : Cond.static yX3_isSo ∈ wsL_law := ch32 _ (List.mem_of_getElem? (i := 14) rfl)
theorem wk32_15 : Cond.code yX3_isSo cX3_isSo 3 (some .boolean) ∈ wsL_law := ch32 _ (List.mem_of_getElem? (i := 15) rfl)
theorem wk32_16 : Cond.methodLink RL 44 yX9_knock ∈ wsL_law := ch32 _ (List.mem_of_getElem? (i := 16) rfl)
theorem wk32_17 : Cond.instanceMethod yX9_knock ∈ wsL_law := ch32 _ (List.mem_of_getElem? (i := 17) rfl)
theorem wk32_18 : Cond.selects RX9 yX9_knock yX9_knock ∈ wsL_law := ch32 _ (List.mem_of_getElem? (i := 18) rfl)
theorem wk32_19 : Cond.code yX9_knock cX9_knock 2 (some .int) ∈ wsL_law := ch32 _ (List.mem_of_getElem? (i := 19) rfl)
theorem wk32_20 : Cond.methodLink RX9 77 yX9_isHere ∈ wsL_law := ch32 _ (List.mem_of_getElem? (i := 20) rfl)
theorem wk32_21 : Cond.instanceMethod yX9_isHere ∈ wsL_law := ch32 _ (List.mem_of_getElem? (i := 21) rfl)
theorem wk32_22 : Cond.selects RX9 yX9_isHere yX9_isHere ∈ wsL_law := ch32 _ (List.mem_of_getElem? (i := 22) rfl)
theorem wk32_23 : Cond.code yX9_isHere cX9_isHere 2 (some .boolean) ∈ wsL_law := ch32 _ (List.mem_of_getElem? (i := 23) rfl)
theorem wk33_0 : Cond.methodLink RX9 69 yX9_isHouse ∈ wsL_law := ch33 _ (List.mem_of_getElem? (i := 0) rfl)
theorem wk33_1 : Cond.instanceMethod yX9_isHouse ∈ wsL_law := ch33 _ (List.mem_of_getElem? (i := 1) rfl)
theorem wk33_2 : Cond.selects RX9 yX9_isHouse yX9_isHouse ∈ wsL_law := ch33 _ (List.mem_of_getElem? (i := 2) rfl)
theorem wk33_3 : Cond.code yX9_isHouse cX9_isHouse 2 (some .boolean) ∈ wsL_law := ch33 _ (List.mem_of_getElem? (i := 3) rfl)
theorem wk33_4 : Cond.methodLink RX9 335 yX9_keep ∈ wsL_law := ch33 _ (List.mem_of_getElem? (i := 4) rfl)
theorem wk33_5 : Cond.instanceMethod yX9_keep ∈ wsL_law := ch33 _ (List.mem_of_getElem? (i := 5) rfl)
theorem wk33_6 : Cond.selects RX9 yX9_keep yX9_keep ∈ wsL_law := ch33 _ (List.mem_of_getElem? (i := 6) rfl)
theorem wk33_7 : Cond.code yX9_keep cX9_keep 4 none ∈ wsL_law := ch33 _ (List.mem_of_getElem? (i := 7) rfl)
theorem wk33_8 : Cond.methodLink RX9 338 yX9_knockNow ∈ wsL_law := ch33 _ (List.mem_of_getElem? (i := 8) rfl)
theorem wk33_9 : Cond.instanceMethod yX9_knockNow ∈ wsL_law := ch33 _ (List.mem_of_getElem? (i := 9) rfl)
theorem wk33_10 : Cond.selects RX9 yX9_knockNow yX9_knockNow ∈ wsL_law := ch33 _ (List.mem_of_getElem? (i := 10) rfl)
theorem wk33_11 : Cond.code yX9_knockNow cX9_knockNow 4 (some .int) ∈ wsL_law := ch33 _ (List.mem_of_getElem? (i := 11) rfl)
theorem wk33_12 : Cond.methodLink RX9 320 yX9_date ∈ wsL_law := ch33 _ (List.mem_of_getElem? (i := 12) rfl)
theorem wk33_13 : Cond.instanceMethod yX9_date ∈ wsL_law := ch33 _ (List.mem_of_getElem? (i := 13) rfl)
theorem wk33_14 : Cond.selects RX9 yX9_date yX9_date ∈ wsL_law := ch33 _ (List.mem_of_getElem? (i := 14) rfl)
theorem wk33_15 : Cond.code yX9_date cX9_date 1 (some .int) ∈ wsL_law := ch33 _ (List.mem_of_getElem? (i := 15) rfl)
theorem wk33_16 : Cond.methodLink RX9 329 yX9_write ∈ wsL_law := ch33 _ (List.mem_of_getElem? (i := 16) rfl)
theorem wk33_17 : Cond.instanceMethod yX9_write ∈ wsL_law := ch33 _ (List.mem_of_getElem? (i := 17) rfl)
theorem wk33_18 : Cond.selects RX9 yX9_write yX9_write ∈ wsL_law := ch33 _ (List.mem_of_getElem? (i := 18) rfl)
theorem wk33_19 : Cond.code yX9_write cX9_write 4 none ∈ wsL_law := ch33 _ (List.mem_of_getElem? (i := 19) rfl)
theorem wk33_20 : Cond.methodLink RX9 332 yX9_isLetting ∈ wsL_law := ch33 _ (List.mem_of_getElem? (i := 20) rfl)
theorem wk33_21 : Cond.instanceMethod yX9_isLetting ∈ wsL_law := ch33 _ (List.mem_of_getElem? (i := 21) rfl)
theorem wk33_22 : Cond.selects RX9 yX9_isLetting yX9_isLetting ∈ wsL_law := ch33 _ (List.mem_of_getElem? (i := 22) rfl)
theorem wk33_23 : Cond.code yX9_isLetting cX9_isLetting 3 (some .boolean) ∈ wsL_law := ch33 _ (List.mem_of_getElem? (i := 23) rfl)
theorem wk34_0 : Cond.methodLink RX9 293 yX9_clauseOf ∈ wsL_law := ch34 _ (List.mem_of_getElem? (i := 0) rfl)
theorem wk34_1 : Cond.instanceMethod yX9_clauseOf ∈ wsL_law := ch34 _ (List.mem_of_getElem? (i := 1) rfl)
theorem wk34_2 : Cond.selects RX9 yX9_clauseOf yX9_clauseOf ∈ wsL_law := ch34 _ (List.mem_of_getElem? (i := 2) rfl)
theorem wk34_3 : Cond.code yX9_clauseOf cX9_clauseOf 3 (some .int) ∈ wsL_law := ch34 _ (List.mem_of_getElem? (i := 3) rfl)
theorem wk34_4 : Cond.methodLink RX9 314 yX9_name ∈ wsL_law := ch34 _ (List.mem_of_getElem? (i := 4) rfl)
theorem wk34_5 : Cond.instanceMethod yX9_name ∈ wsL_law := ch34 _ (List.mem_of_getElem? (i := 5) rfl)
theorem wk34_6 : Cond.selects RX9 yX9_name yX9_name ∈ wsL_law := ch34 _ (List.mem_of_getElem? (i := 6) rfl)
theorem wk34_7 : Cond.code yX9_name cX9_name 3 none ∈ wsL_law := ch34 _ (List.mem_of_getElem? (i := 7) rfl)
theorem wk34_8 : Cond.methodLink RX9 305 yX9_bits ∈ wsL_law := ch34 _ (List.mem_of_getElem? (i := 8) rfl)
theorem wk34_9 : Cond.static yX9_bits ∈ wsL_law := ch34 _ (List.mem_of_getElem? (i := 9) rfl)
theorem wk34_10 : Cond.code yX9_bits cX9_bits 3 (some .int) ∈ wsL_law := ch34 _ (List.mem_of_getElem? (i := 10) rfl)
theorem wk34_11 : Cond.methodLink RX9 308 yX9_openOn ∈ wsL_law := ch34 _ (List.mem_of_getElem? (i := 11) rfl)
theorem wk34_12 : Cond.instanceMethod yX9_openOn ∈ wsL_law := ch34 _ (List.mem_of_getElem? (i := 12) rfl)
theorem wk34_13 : Cond.selects RX9 yX9_openOn yX9_openOn ∈ wsL_law := ch34 _ (List.mem_of_getElem? (i := 13) rfl)
theorem wk34_14 : Cond.code yX9_openOn cX9_openOn 4 (some .int) ∈ wsL_law := ch34 _ (List.mem_of_getElem? (i := 14) rfl)
theorem wk34_15 : Cond.methodLink RX9 302 yX9_isOpen ∈ wsL_law := ch34 _ (List.mem_of_getElem? (i := 15) rfl)
theorem wk34_16 : Cond.instanceMethod yX9_isOpen ∈ wsL_law := ch34 _ (List.mem_of_getElem? (i := 16) rfl)
theorem wk34_17 : Cond.selects RX9 yX9_isOpen yX9_isOpen ∈ wsL_law := ch34 _ (List.mem_of_getElem? (i := 17) rfl)
theorem wk34_18 : Cond.code yX9_isOpen cX9_isOpen 3 (some .boolean) ∈ wsL_law := ch34 _ (List.mem_of_getElem? (i := 18) rfl)
theorem wk34_19 : Cond.methodLink RX9 311 yX9_besideOn ∈ wsL_law := ch34 _ (List.mem_of_getElem? (i := 19) rfl)
theorem wk34_20 : Cond.instanceMethod yX9_besideOn ∈ wsL_law := ch34 _ (List.mem_of_getElem? (i := 20) rfl)
theorem wk34_21 : Cond.selects RX9 yX9_besideOn yX9_besideOn ∈ wsL_law := ch34 _ (List.mem_of_getElem? (i := 21) rfl)
theorem wk34_22 : Cond.code yX9_besideOn cX9_besideOn 3 (some .int) ∈ wsL_law := ch34 _ (List.mem_of_getElem? (i := 22) rfl)
theorem wk34_23 : Cond.methodLink RX9 296 yX9_work ∈ wsL_law := ch34 _ (List.mem_of_getElem? (i := 23) rfl)
theorem wk35_0 : Cond.instanceMethod yX9_work ∈ wsL_law := ch35 _ (List.mem_of_getElem? (i := 0) rfl)
theorem wk35_1 : Cond.selects RX9 yX9_work yX9_work ∈ wsL_law := ch35 _ (List.mem_of_getElem? (i := 1) rfl)
theorem wk35_2 : Cond.code yX9_work cX9_work 9 none ∈ wsL_law := ch35 _ (List.mem_of_getElem? (i := 2) rfl)
theorem wk35_3 : Cond.methodLink RX9 274 yX9_digit ∈ wsL_law := ch35 _ (List.mem_of_getElem? (i := 3) rfl)
theorem wk35_4 : Cond.static yX9_digit ∈ wsL_law := ch35 _ (List.mem_of_getElem? (i := 4) rfl)
theorem wk35_5 : Cond.code yX9_digit cX9_digit 8 (some .long) ∈ wsL_law := ch35 _ (List.mem_of_getElem? (i := 5) rfl)
theorem wk35_6 : Cond.constantLong RX9 270 (10) ∈ wsL_law := ch35 _ (List.mem_of_getElem? (i := 6) rfl)
theorem wk35_7 : Cond.constantLong RX9 272 (9) ∈ wsL_law := ch35 _ (List.mem_of_getElem? (i := 7) rfl)
theorem wk35_8 : Cond.methodLink RX9 278 yX9_two ∈ wsL_law := ch35 _ (List.mem_of_getElem? (i := 8) rfl)
theorem wk35_9 : Cond.static yX9_two ∈ wsL_law := ch35 _ (List.mem_of_getElem? (i := 9) rfl)
theorem wk35_10 : Cond.code yX9_two cX9_two 5 (some .long) ∈ wsL_law := ch35 _ (List.mem_of_getElem? (i := 10) rfl)
theorem wk35_11 : Cond.methodLink RX9 266 yX9_clip ∈ wsL_law := ch35 _ (List.mem_of_getElem? (i := 11) rfl)
theorem wk35_12 : Cond.static yX9_clip ∈ wsL_law := ch35 _ (List.mem_of_getElem? (i := 12) rfl)
theorem wk35_13 : Cond.code yX9_clip cX9_clip 2 (some .long) ∈ wsL_law := ch35 _ (List.mem_of_getElem? (i := 13) rfl)
theorem wk35_14 : Cond.constantLong RX9 262 (1000000) ∈ wsL_law := ch35 _ (List.mem_of_getElem? (i := 14) rfl)
theorem wk35_15 : Cond.constantLong RX9 264 (-1000000) ∈ wsL_law := ch35 _ (List.mem_of_getElem? (i := 15) rfl)
theorem wk35_16 : Cond.methodLink RX9 282 yX9_isDividing ∈ wsL_law := ch35 _ (List.mem_of_getElem? (i := 16) rfl)
theorem wk35_17 : Cond.static yX9_isDividing ∈ wsL_law := ch35 _ (List.mem_of_getElem? (i := 17) rfl)
theorem wk35_18 : Cond.code yX9_isDividing cX9_isDividing 4 (some .boolean) ∈ wsL_law := ch35 _ (List.mem_of_getElem? (i := 18) rfl)
theorem wk35_19 : Cond.methodLink RX9 285 yX9_isAsked ∈ wsL_law := ch35 _ (List.mem_of_getElem? (i := 19) rfl)
theorem wk35_20 : Cond.static yX9_isAsked ∈ wsL_law := ch35 _ (List.mem_of_getElem? (i := 20) rfl)
theorem wk35_21 : Cond.code yX9_isAsked cX9_isAsked 5 (some .boolean) ∈ wsL_law := ch35 _ (List.mem_of_getElem? (i := 21) rfl)
theorem wk35_22 : Cond.methodLink RX9 289 yX9_joined ∈ wsL_law := ch35 _ (List.mem_of_getElem? (i := 22) rfl)
theorem wk35_23 : Cond.static yX9_joined ∈ wsL_law := ch35 _ (List.mem_of_getElem? (i := 23) rfl)
theorem wk36_0 : Cond.code yX9_joined cX9_joined 3 (some .boolean) ∈ wsL_law := ch36 _ (List.mem_of_getElem? (i := 0) rfl)
theorem wk36_1 : Cond.methodLink RX9 299 yX9_cut ∈ wsL_law := ch36 _ (List.mem_of_getElem? (i := 1) rfl)
theorem wk36_2 : Cond.static yX9_cut ∈ wsL_law := ch36 _ (List.mem_of_getElem? (i := 2) rfl)
theorem wk36_3 : Cond.code yX9_cut cX9_cut 4 (some .int) ∈ wsL_law := ch36 _ (List.mem_of_getElem? (i := 3) rfl)
theorem wk36_4 : Cond.methodLink RL 45 yX8_marry ∈ wsL_law := ch36 _ (List.mem_of_getElem? (i := 4) rfl)
theorem wk36_5 : Cond.instanceMethod yX8_marry ∈ wsL_law := ch36 _ (List.mem_of_getElem? (i := 5) rfl)
theorem wk36_6 : Cond.selects RX8 yX8_marry yX8_marry ∈ wsL_law := ch36 _ (List.mem_of_getElem? (i := 6) rfl)
theorem wk36_7 : Cond.code yX8_marry cX8_marry 4 (some .int) ∈ wsL_law := ch36 _ (List.mem_of_getElem? (i := 7) rfl)
theorem wk36_8 : Cond.methodLink RX8 145 yX6_marriedDates ∈ wsL_law := ch36 _ (List.mem_of_getElem? (i := 8) rfl)
theorem wk36_9 : Cond.instanceMethod yX6_marriedDates ∈ wsL_law := ch36 _ (List.mem_of_getElem? (i := 9) rfl)
theorem wk36_10 : Cond.selects RX6 yX6_marriedDates yX6_marriedDates ∈ wsL_law := ch36 _ (List.mem_of_getElem? (i := 10) rfl)
theorem wk36_11 : Cond.code yX6_marriedDates cX6_marriedDates 5 (some .int) ∈ wsL_law := ch36 _ (List.mem_of_getElem? (i := 11) rfl)
theorem wk36_12 : Cond.methodLink RX6 89 yX6_lives ∈ wsL_law := ch36 _ (List.mem_of_getElem? (i := 12) rfl)
theorem wk36_13 : Cond.methodLink RX6 71 yJ6_bitCount_0f7a4 ∈ wsL_law := ch36 _ (List.mem_of_getElem? (i := 13) rfl)
theorem wk36_14 : Cond.methodLink RX8 149 yX6_join ∈ wsL_law := ch36 _ (List.mem_of_getElem? (i := 14) rfl)
theorem wk36_15 : Cond.instanceMethod yX6_join ∈ wsL_law := ch36 _ (List.mem_of_getElem? (i := 15) rfl)
theorem wk36_16 : Cond.selects RX6 yX6_join yX6_join ∈ wsL_law := ch36 _ (List.mem_of_getElem? (i := 16) rfl)
theorem wk36_17 : Cond.code yX6_join cX6_join 4 none ∈ wsL_law := ch36 _ (List.mem_of_getElem? (i := 17) rfl)
theorem wk36_18 : Cond.methodLink RL 49 yX9_marry ∈ wsL_law := ch36 _ (List.mem_of_getElem? (i := 18) rfl)
theorem wk36_19 : Cond.instanceMethod yX9_marry ∈ wsL_law := ch36 _ (List.mem_of_getElem? (i := 19) rfl)
theorem wk36_20 : Cond.selects RX9 yX9_marry yX9_marry ∈ wsL_law := ch36 _ (List.mem_of_getElem? (i := 20) rfl)
theorem wk36_21 : Cond.code yX9_marry cX9_marry 5 (some .int) ∈ wsL_law := ch36 _ (List.mem_of_getElem? (i := 21) rfl)
theorem wk36_22 : Cond.methodLink RL 50 yX8_hat ∈ wsL_law := ch36 _ (List.mem_of_getElem? (i := 22) rfl)
theorem wk36_23 : Cond.instanceMethod yX8_hat ∈ wsL_law := ch36 _ (List.mem_of_getElem? (i := 23) rfl)
theorem wk37_0 : Cond.selects RX8 yX8_hat yX8_hat ∈ wsL_law := ch37 _ (List.mem_of_getElem? (i := 0) rfl)
theorem wk37_1 : Cond.code yX8_hat cX8_hat 2 (some .int) ∈ wsL_law := ch37 _ (List.mem_of_getElem? (i := 1) rfl)
theorem wk37_2 : Cond.methodLink RX8 153 yX6_canDraw ∈ wsL_law := ch37 _ (List.mem_of_getElem? (i := 2) rfl)
theorem wk37_3 : Cond.instanceMethod yX6_canDraw ∈ wsL_law := ch37 _ (List.mem_of_getElem? (i := 3) rfl)
theorem wk37_4 : Cond.selects RX6 yX6_canDraw yX6_canDraw ∈ wsL_law := ch37 _ (List.mem_of_getElem? (i := 4) rfl)
theorem wk37_5 : Cond.code yX6_canDraw cX6_canDraw 2 (some .boolean) ∈ wsL_law := ch37 _ (List.mem_of_getElem? (i := 5) rfl)
theorem wk37_6 : Cond.methodLink RX8 156 yX6_drawDate ∈ wsL_law := ch37 _ (List.mem_of_getElem? (i := 6) rfl)
theorem wk37_7 : Cond.instanceMethod yX6_drawDate ∈ wsL_law := ch37 _ (List.mem_of_getElem? (i := 7) rfl)
theorem wk37_8 : Cond.selects RX6 yX6_drawDate yX6_drawDate ∈ wsL_law := ch37 _ (List.mem_of_getElem? (i := 8) rfl)
theorem wk37_9 : Cond.code yX6_drawDate cX6_drawDate 4 (some .int) ∈ wsL_law := ch37 _ (List.mem_of_getElem? (i := 9) rfl)
theorem wk37_10 : Cond.methodLink RX6 92 yX6_canDraw ∈ wsL_law := ch37 _ (List.mem_of_getElem? (i := 10) rfl)
theorem wk37_11 : Cond.methodLink RX6 95 yX6_drawX ∈ wsL_law := ch37 _ (List.mem_of_getElem? (i := 11) rfl)
theorem wk37_12 : Cond.instanceMethod yX6_drawX ∈ wsL_law := ch37 _ (List.mem_of_getElem? (i := 12) rfl)
theorem wk37_13 : Cond.selects RX6 yX6_drawX yX6_drawX ∈ wsL_law := ch37 _ (List.mem_of_getElem? (i := 13) rfl)
theorem wk37_14 : Cond.code yX6_drawX cX6_drawX 2 (some .int) ∈ wsL_law := ch37 _ (List.mem_of_getElem? (i := 14) rfl)
theorem wk37_15 : Cond.methodLink RX6 98 yX6_isShut ∈ wsL_law := ch37 _ (List.mem_of_getElem? (i := 15) rfl)
theorem wk37_16 : Cond.methodLink RL 53 yX9_hat ∈ wsL_law := ch37 _ (List.mem_of_getElem? (i := 16) rfl)
theorem wk37_17 : Cond.instanceMethod yX9_hat ∈ wsL_law := ch37 _ (List.mem_of_getElem? (i := 17) rfl)
theorem wk37_18 : Cond.selects RX9 yX9_hat yX9_hat ∈ wsL_law := ch37 _ (List.mem_of_getElem? (i := 18) rfl)
theorem wk37_19 : Cond.code yX9_hat cX9_hat 2 (some .int) ∈ wsL_law := ch37 _ (List.mem_of_getElem? (i := 19) rfl)
theorem wk37_20 : Cond.methodLink RX9 350 yX9_canDraw ∈ wsL_law := ch37 _ (List.mem_of_getElem? (i := 20) rfl)
theorem wk37_21 : Cond.instanceMethod yX9_canDraw ∈ wsL_law := ch37 _ (List.mem_of_getElem? (i := 21) rfl)
theorem wk37_22 : Cond.selects RX9 yX9_canDraw yX9_canDraw ∈ wsL_law := ch37 _ (List.mem_of_getElem? (i := 22) rfl)
theorem wk37_23 : Cond.code yX9_canDraw cX9_canDraw 2 (some .boolean) ∈ wsL_law := ch37 _ (List.mem_of_getElem? (i := 23) rfl)
theorem wk38_0 : Cond.methodLink RX9 353 yX9_hatNow ∈ wsL_law := ch38 _ (List.mem_of_getElem? (i := 0) rfl)
theorem wk38_1 : Cond.instanceMethod yX9_hatNow ∈ wsL_law := ch38 _ (List.mem_of_getElem? (i := 1) rfl)
theorem wk38_2 : Cond.selects RX9 yX9_hatNow yX9_hatNow ∈ wsL_law := ch38 _ (List.mem_of_getElem? (i := 2) rfl)
theorem wk38_3 : Cond.code yX9_hatNow cX9_hatNow 4 (some .int) ∈ wsL_law := ch38 _ (List.mem_of_getElem? (i := 3) rfl)
theorem wk38_4 : Cond.methodLink RX9 347 yX9_anew ∈ wsL_law := ch38 _ (List.mem_of_getElem? (i := 4) rfl)
theorem wk38_5 : Cond.instanceMethod yX9_anew ∈ wsL_law := ch38 _ (List.mem_of_getElem? (i := 5) rfl)
theorem wk38_6 : Cond.selects RX9 yX9_anew yX9_anew ∈ wsL_law := ch38 _ (List.mem_of_getElem? (i := 6) rfl)
theorem wk38_7 : Cond.code yX9_anew cX9_anew 1 none ∈ wsL_law := ch38 _ (List.mem_of_getElem? (i := 7) rfl)
theorem wk38_8 : Cond.constantLong RX9 341 (359) ∈ wsL_law := ch38 _ (List.mem_of_getElem? (i := 8) rfl)
theorem wk38_9 : Cond.constantLong RX9 343 (239) ∈ wsL_law := ch38 _ (List.mem_of_getElem? (i := 9) rfl)
theorem wk38_10 : Cond.constantLong RX9 345 (30431) ∈ wsL_law := ch38 _ (List.mem_of_getElem? (i := 10) rfl)
theorem wk38_11 : Cond.methodLink RL 54 yX8_forget ∈ wsL_law := ch38 _ (List.mem_of_getElem? (i := 11) rfl)
theorem wk38_12 : Cond.instanceMethod yX8_forget ∈ wsL_law := ch38 _ (List.mem_of_getElem? (i := 12) rfl)
theorem wk38_13 : Cond.selects RX8 yX8_forget yX8_forget ∈ wsL_law := ch38 _ (List.mem_of_getElem? (i := 13) rfl)
theorem wk38_14 : Cond.code yX8_forget cX8_forget 3 (some .boolean) ∈ wsL_law := ch38 _ (List.mem_of_getElem? (i := 14) rfl)
theorem wk38_15 : Cond.methodLink RX8 159 yX6_canForget ∈ wsL_law := ch38 _ (List.mem_of_getElem? (i := 15) rfl)
theorem wk38_16 : Cond.instanceMethod yX6_canForget ∈ wsL_law := ch38 _ (List.mem_of_getElem? (i := 16) rfl)
theorem wk38_17 : Cond.selects RX6 yX6_canForget yX6_canForget ∈ wsL_law := ch38 _ (List.mem_of_getElem? (i := 17) rfl)
theorem wk38_18 : Cond.code yX6_canForget cX6_canForget 3 (some .boolean) ∈ wsL_law := ch38 _ (List.mem_of_getElem? (i := 18) rfl)
theorem wk38_19 : Cond.methodLink RX8 162 yX6_dropDate ∈ wsL_law := ch38 _ (List.mem_of_getElem? (i := 19) rfl)
theorem wk38_20 : Cond.instanceMethod yX6_dropDate ∈ wsL_law := ch38 _ (List.mem_of_getElem? (i := 20) rfl)
theorem wk38_21 : Cond.selects RX6 yX6_dropDate yX6_dropDate ∈ wsL_law := ch38 _ (List.mem_of_getElem? (i := 21) rfl)
theorem wk38_22 : Cond.code yX6_dropDate cX6_dropDate 3 none ∈ wsL_law := ch38 _ (List.mem_of_getElem? (i := 22) rfl)
theorem wk38_23 : Cond.methodLink RX6 105 yX6_canForget ∈ wsL_law := ch38 _ (List.mem_of_getElem? (i := 23) rfl)
theorem wk39_0 : Cond.methodLink RL 58 yX9_forget ∈ wsL_law := ch39 _ (List.mem_of_getElem? (i := 0) rfl)
theorem wk39_1 : Cond.instanceMethod yX9_forget ∈ wsL_law := ch39 _ (List.mem_of_getElem? (i := 1) rfl)
theorem wk39_2 : Cond.selects RX9 yX9_forget yX9_forget ∈ wsL_law := ch39 _ (List.mem_of_getElem? (i := 2) rfl)
theorem wk39_3 : Cond.code yX9_forget cX9_forget 3 (some .boolean) ∈ wsL_law := ch39 _ (List.mem_of_getElem? (i := 3) rfl)
theorem wk39_4 : Cond.methodLink RX9 356 yX9_canForget ∈ wsL_law := ch39 _ (List.mem_of_getElem? (i := 4) rfl)
theorem wk39_5 : Cond.instanceMethod yX9_canForget ∈ wsL_law := ch39 _ (List.mem_of_getElem? (i := 5) rfl)
theorem wk39_6 : Cond.selects RX9 yX9_canForget yX9_canForget ∈ wsL_law := ch39 _ (List.mem_of_getElem? (i := 6) rfl)
theorem wk39_7 : Cond.code yX9_canForget cX9_canForget 3 (some .boolean) ∈ wsL_law := ch39 _ (List.mem_of_getElem? (i := 7) rfl)
theorem wk39_8 : Cond.methodLink RX9 359 yX9_forgetNow ∈ wsL_law := ch39 _ (List.mem_of_getElem? (i := 8) rfl)
theorem wk39_9 : Cond.instanceMethod yX9_forgetNow ∈ wsL_law := ch39 _ (List.mem_of_getElem? (i := 9) rfl)
theorem wk39_10 : Cond.selects RX9 yX9_forgetNow yX9_forgetNow ∈ wsL_law := ch39 _ (List.mem_of_getElem? (i := 10) rfl)
theorem wk39_11 : Cond.code yX9_forgetNow cX9_forgetNow 3 none ∈ wsL_law := ch39 _ (List.mem_of_getElem? (i := 11) rfl)
theorem wk39_12 : Cond.methodLink RL 59 yX8_day ∈ wsL_law := ch39 _ (List.mem_of_getElem? (i := 12) rfl)
theorem wk39_13 : Cond.instanceMethod yX8_day ∈ wsL_law := ch39 _ (List.mem_of_getElem? (i := 13) rfl)
theorem wk39_14 : Cond.selects RX8 yX8_day yX8_day ∈ wsL_law := ch39 _ (List.mem_of_getElem? (i := 14) rfl)
theorem wk39_15 : Cond.code yX8_day cX8_day 2 (some .int) ∈ wsL_law := ch39 _ (List.mem_of_getElem? (i := 15) rfl)
theorem wk39_16 : Cond.methodLink RX8 169 yX8_passDays ∈ wsL_law := ch39 _ (List.mem_of_getElem? (i := 16) rfl)
theorem wk39_17 : Cond.instanceMethod yX8_passDays ∈ wsL_law := ch39 _ (List.mem_of_getElem? (i := 17) rfl)
theorem wk39_18 : Cond.selects RX8 yX8_passDays yX8_passDays ∈ wsL_law := ch39 _ (List.mem_of_getElem? (i := 18) rfl)
theorem wk39_19 : Cond.code yX8_passDays cX8_passDays 3 (some .int) ∈ wsL_law := ch39 _ (List.mem_of_getElem? (i := 19) rfl)
theorem wk39_20 : Cond.methodLink RX8 374 yX3_passDay ∈ wsL_law := ch39 _ (List.mem_of_getElem? (i := 20) rfl)
theorem wk39_21 : Cond.instanceMethod yX3_passDay ∈ wsL_law := ch39 _ (List.mem_of_getElem? (i := 21) rfl)
theorem wk39_22 : Cond.selects RX3 yX3_passDay yX3_passDay ∈ wsL_law := ch39 _ (List.mem_of_getElem? (i := 22) rfl)
theorem wk39_23 : Cond.code yX3_passDay cX3_passDay 5 none ∈ wsL_law := ch39 _ (List.mem_of_getElem? (i := 23) rfl)
theorem wk40_0 : Cond.fieldLink RX3 64 "ShutDays$Town" "day" "I" ∈ wsL_law := ch40 _ (List.mem_of_getElem? (i := 0) rfl)
theorem wk40_1 : Cond.fieldLink RX3 71 "ShutDays$Town" "houses" "I" ∈ wsL_law := ch40 _ (List.mem_of_getElem? (i := 1) rfl)
theorem wk40_2 : Cond.methodLink RX3 55 Lib.Math.max.name ∈ wsL_law := ch40 _ (List.mem_of_getElem? (i := 2) rfl)
theorem wk40_3 : Cond.methodLink RX3 67 yX3_lookAt ∈ wsL_law := ch40 _ (List.mem_of_getElem? (i := 3) rfl)
theorem wk40_4 : Cond.methodLink RX3 77 yX3_earnedBy ∈ wsL_law := ch40 _ (List.mem_of_getElem? (i := 4) rfl)
theorem wk40_5 : Cond.instanceMethod yX3_earnedBy ∈ wsL_law := ch40 _ (List.mem_of_getElem? (i := 5) rfl)
theorem wk40_6 : Cond.selects RX3 yX3_earnedBy yX3_earnedBy ∈ wsL_law := ch40 _ (List.mem_of_getElem? (i := 6) rfl)
theorem wk40_7 : Cond.code yX3_earnedBy cX3_earnedBy 4 (some .int) ∈ wsL_law := ch40 _ (List.mem_of_getElem? (i := 7) rfl)
theorem wk40_8 : Cond.methodLink RX3 81 yX6_lives ∈ wsL_law := ch40 _ (List.mem_of_getElem? (i := 8) rfl)
theorem wk40_9 : Cond.methodLink RX3 84 yX3_lostBy ∈ wsL_law := ch40 _ (List.mem_of_getElem? (i := 9) rfl)
theorem wk40_10 : Cond.instanceMethod yX3_lostBy ∈ wsL_law := ch40 _ (List.mem_of_getElem? (i := 10) rfl)
theorem wk40_11 : Cond.selects RX3 yX3_lostBy yX3_lostBy ∈ wsL_law := ch40 _ (List.mem_of_getElem? (i := 11) rfl)
theorem wk40_12 : Cond.code yX3_lostBy cX3_lostBy 4 (some .int) ∈ wsL_law := ch40 _ (List.mem_of_getElem? (i := 12) rfl)
theorem wk40_13 : Cond.methodLink RL 62 yX9_day ∈ wsL_law := ch40 _ (List.mem_of_getElem? (i := 13) rfl)
theorem wk40_14 : Cond.instanceMethod yX9_day ∈ wsL_law := ch40 _ (List.mem_of_getElem? (i := 14) rfl)
theorem wk40_15 : Cond.selects RX9 yX9_day yX9_day ∈ wsL_law := ch40 _ (List.mem_of_getElem? (i := 15) rfl)
theorem wk40_16 : Cond.code yX9_day cX9_day 2 (some .int) ∈ wsL_law := ch40 _ (List.mem_of_getElem? (i := 16) rfl)
theorem wk40_17 : Cond.methodLink RX9 365 yX9_arePassed ∈ wsL_law := ch40 _ (List.mem_of_getElem? (i := 17) rfl)
theorem wk40_18 : Cond.instanceMethod yX9_arePassed ∈ wsL_law := ch40 _ (List.mem_of_getElem? (i := 18) rfl)
theorem wk40_19 : Cond.selects RX9 yX9_arePassed yX9_arePassed ∈ wsL_law := ch40 _ (List.mem_of_getElem? (i := 19) rfl)
theorem wk40_20 : Cond.code yX9_arePassed cX9_arePassed 3 (some .boolean) ∈ wsL_law := ch40 _ (List.mem_of_getElem? (i := 20) rfl)
theorem wk40_21 : Cond.methodLink RX9 362 yX9_pass ∈ wsL_law := ch40 _ (List.mem_of_getElem? (i := 21) rfl)
theorem wk40_22 : Cond.instanceMethod yX9_pass ∈ wsL_law := ch40 _ (List.mem_of_getElem? (i := 22) rfl)
theorem wk40_23 : Cond.selects RX9 yX9_pass yX9_pass ∈ wsL_law := ch40 _ (List.mem_of_getElem? (i := 23) rfl)
theorem wk41_0 : Cond.code yX9_pass cX9_pass 4 none ∈ wsL_law := ch41 _ (List.mem_of_getElem? (i := 0) rfl)
theorem wk41_1 : Cond.methodLink RX9 323 yX9_losesOf ∈ wsL_law := ch41 _ (List.mem_of_getElem? (i := 1) rfl)
theorem wk41_2 : Cond.instanceMethod yX9_losesOf ∈ wsL_law := ch41 _ (List.mem_of_getElem? (i := 2) rfl)
theorem wk41_3 : Cond.selects RX9 yX9_losesOf yX9_losesOf ∈ wsL_law := ch41 _ (List.mem_of_getElem? (i := 3) rfl)
theorem wk41_4 : Cond.code yX9_losesOf cX9_losesOf 2 (some .int) ∈ wsL_law := ch41 _ (List.mem_of_getElem? (i := 4) rfl)
theorem wk41_5 : Cond.methodLink RX9 317 yX9_says ∈ wsL_law := ch41 _ (List.mem_of_getElem? (i := 5) rfl)
theorem wk41_6 : Cond.instanceMethod yX9_says ∈ wsL_law := ch41 _ (List.mem_of_getElem? (i := 6) rfl)
theorem wk41_7 : Cond.selects RX9 yX9_says yX9_says ∈ wsL_law := ch41 _ (List.mem_of_getElem? (i := 7) rfl)
theorem wk41_8 : Cond.code yX9_says cX9_says 4 (some .int) ∈ wsL_law := ch41 _ (List.mem_of_getElem? (i := 8) rfl)
theorem wk41_9 : Cond.methodLink RX9 326 yX9_earnsOn ∈ wsL_law := ch41 _ (List.mem_of_getElem? (i := 9) rfl)
theorem wk41_10 : Cond.instanceMethod yX9_earnsOn ∈ wsL_law := ch41 _ (List.mem_of_getElem? (i := 10) rfl)
theorem wk41_11 : Cond.selects RX9 yX9_earnsOn yX9_earnsOn ∈ wsL_law := ch41 _ (List.mem_of_getElem? (i := 11) rfl)
theorem wk41_12 : Cond.code yX9_earnsOn cX9_earnsOn 3 (some .int) ∈ wsL_law := ch41 _ (List.mem_of_getElem? (i := 12) rfl)
theorem wk41_13 : Cond.methodLink RL 63 yX8_played ∈ wsL_law := ch41 _ (List.mem_of_getElem? (i := 13) rfl)
theorem wk41_14 : Cond.instanceMethod yX8_played ∈ wsL_law := ch41 _ (List.mem_of_getElem? (i := 14) rfl)
theorem wk41_15 : Cond.selects RX8 yX8_played yX8_played ∈ wsL_law := ch41 _ (List.mem_of_getElem? (i := 15) rfl)
theorem wk41_16 : Cond.code yX8_played cX8_played 4 (some .int) ∈ wsL_law := ch41 _ (List.mem_of_getElem? (i := 16) rfl)
theorem wk41_17 : Cond.fieldLink RX8 176 "ShutDays$Text" "clauses" "I" ∈ wsL_law := ch41 _ (List.mem_of_getElem? (i := 17) rfl)
theorem wk41_18 : Cond.methodLink RX8 179 yX8_isCarriedOut ∈ wsL_law := ch41 _ (List.mem_of_getElem? (i := 18) rfl)
theorem wk41_19 : Cond.instanceMethod yX8_isCarriedOut ∈ wsL_law := ch41 _ (List.mem_of_getElem? (i := 19) rfl)
theorem wk41_20 : Cond.selects RX8 yX8_isCarriedOut yX8_isCarriedOut ∈ wsL_law := ch41 _ (List.mem_of_getElem? (i := 20) rfl)
theorem wk41_21 : Cond.code yX8_isCarriedOut cX8_isCarriedOut 5 (some .boolean) ∈ wsL_law := ch41 _ (List.mem_of_getElem? (i := 21) rfl)
theorem wk41_22 : Cond.methodLink RX8 380 yX5_numberOf ∈ wsL_law := ch41 _ (List.mem_of_getElem? (i := 22) rfl)
theorem wk41_23 : Cond.instanceMethod yX5_numberOf ∈ wsL_law := ch41 _ (List.mem_of_getElem? (i := 23) rfl)
theorem wk42_0 : Cond.selects RX5 yX5_numberOf yX5_numberOf ∈ wsL_law := ch42 _ (List.mem_of_getElem? (i := 0) rfl)
theorem wk42_1 : Cond.code yX5_numberOf cX5_numberOf 3 (some .int) ∈ wsL_law := ch42 _ (List.mem_of_getElem? (i := 1) rfl)
theorem wk42_2 : Cond.methodLink RX8 383 yX5_kindOf ∈ wsL_law := ch42 _ (List.mem_of_getElem? (i := 2) rfl)
theorem wk42_3 : Cond.instanceMethod yX5_kindOf ∈ wsL_law := ch42 _ (List.mem_of_getElem? (i := 3) rfl)
theorem wk42_4 : Cond.selects RX5 yX5_kindOf yX5_kindOf ∈ wsL_law := ch42 _ (List.mem_of_getElem? (i := 4) rfl)
theorem wk42_5 : Cond.code yX5_kindOf cX5_kindOf 2 (some .int) ∈ wsL_law := ch42 _ (List.mem_of_getElem? (i := 5) rfl)
theorem wk42_6 : Cond.methodLink RX8 386 yX8_house ∈ wsL_law := ch42 _ (List.mem_of_getElem? (i := 6) rfl)
theorem wk42_7 : Cond.methodLink RX8 390 yX8_knock ∈ wsL_law := ch42 _ (List.mem_of_getElem? (i := 7) rfl)
theorem wk42_8 : Cond.methodLink RX8 393 yX8_marry ∈ wsL_law := ch42 _ (List.mem_of_getElem? (i := 8) rfl)
theorem wk42_9 : Cond.methodLink RX8 396 yX8_isHatPassed ∈ wsL_law := ch42 _ (List.mem_of_getElem? (i := 9) rfl)
theorem wk42_10 : Cond.instanceMethod yX8_isHatPassed ∈ wsL_law := ch42 _ (List.mem_of_getElem? (i := 10) rfl)
theorem wk42_11 : Cond.selects RX8 yX8_isHatPassed yX8_isHatPassed ∈ wsL_law := ch42 _ (List.mem_of_getElem? (i := 11) rfl)
theorem wk42_12 : Cond.code yX8_isHatPassed cX8_isHatPassed 2 (some .boolean) ∈ wsL_law := ch42 _ (List.mem_of_getElem? (i := 12) rfl)
theorem wk42_13 : Cond.methodLink RX8 402 yX8_hat ∈ wsL_law := ch42 _ (List.mem_of_getElem? (i := 13) rfl)
theorem wk42_14 : Cond.methodLink RX8 399 yX8_forget ∈ wsL_law := ch42 _ (List.mem_of_getElem? (i := 14) rfl)
theorem wk42_15 : Cond.methodLink RL 66 yX9_played ∈ wsL_law := ch42 _ (List.mem_of_getElem? (i := 15) rfl)
theorem wk42_16 : Cond.instanceMethod yX9_played ∈ wsL_law := ch42 _ (List.mem_of_getElem? (i := 16) rfl)
theorem wk42_17 : Cond.selects RX9 yX9_played yX9_played ∈ wsL_law := ch42 _ (List.mem_of_getElem? (i := 17) rfl)
theorem wk42_18 : Cond.code yX9_played cX9_played 3 (some .int) ∈ wsL_law := ch42 _ (List.mem_of_getElem? (i := 18) rfl)
theorem wk42_19 : Cond.methodLink RX9 384 yX9_isPlayed ∈ wsL_law := ch42 _ (List.mem_of_getElem? (i := 19) rfl)
theorem wk42_20 : Cond.instanceMethod yX9_isPlayed ∈ wsL_law := ch42 _ (List.mem_of_getElem? (i := 20) rfl)
theorem wk42_21 : Cond.selects RX9 yX9_isPlayed yX9_isPlayed ∈ wsL_law := ch42 _ (List.mem_of_getElem? (i := 21) rfl)
theorem wk42_22 : Cond.code yX9_isPlayed cX9_isPlayed 5 (some .boolean) ∈ wsL_law := ch42 _ (List.mem_of_getElem? (i := 22) rfl)
theorem wk42_23 : Cond.methodLink RX9 368 yX9_house ∈ wsL_law := ch42 _ (List.mem_of_getElem? (i := 23) rfl)
theorem wk43_0 : Cond.methodLink RX9 372 yX9_knock ∈ wsL_law := ch43 _ (List.mem_of_getElem? (i := 0) rfl)
theorem wk43_1 : Cond.methodLink RX9 375 yX9_marry ∈ wsL_law := ch43 _ (List.mem_of_getElem? (i := 1) rfl)
theorem wk43_2 : Cond.methodLink RX9 378 yX9_hat ∈ wsL_law := ch43 _ (List.mem_of_getElem? (i := 2) rfl)
theorem wk43_3 : Cond.methodLink RX9 381 yX9_forget ∈ wsL_law := ch43 _ (List.mem_of_getElem? (i := 3) rfl)
theorem wk43_4 : Cond.methodLink RL 67 yX8_years ∈ wsL_law := ch43 _ (List.mem_of_getElem? (i := 4) rfl)
theorem wk43_5 : Cond.instanceMethod yX8_years ∈ wsL_law := ch43 _ (List.mem_of_getElem? (i := 5) rfl)
theorem wk43_6 : Cond.selects RX8 yX8_years yX8_years ∈ wsL_law := ch43 _ (List.mem_of_getElem? (i := 6) rfl)
theorem wk43_7 : Cond.code yX8_years cX8_years 4 (some .int) ∈ wsL_law := ch43 _ (List.mem_of_getElem? (i := 7) rfl)
theorem wk43_8 : Cond.fieldLink RX8 183 "ShutDays$Town" "houses" "I" ∈ wsL_law := ch43 _ (List.mem_of_getElem? (i := 8) rfl)
theorem wk43_9 : Cond.fieldLink RX8 186 "ShutDays$Town" "x" "I" ∈ wsL_law := ch43 _ (List.mem_of_getElem? (i := 9) rfl)
theorem wk43_10 : Cond.methodLink RX8 189 yX8_takeTurn ∈ wsL_law := ch43 _ (List.mem_of_getElem? (i := 10) rfl)
theorem wk43_11 : Cond.instanceMethod yX8_takeTurn ∈ wsL_law := ch43 _ (List.mem_of_getElem? (i := 11) rfl)
theorem wk43_12 : Cond.selects RX8 yX8_takeTurn yX8_takeTurn ∈ wsL_law := ch43 _ (List.mem_of_getElem? (i := 12) rfl)
theorem wk43_13 : Cond.code yX8_takeTurn cX8_takeTurn 4 none ∈ wsL_law := ch43 _ (List.mem_of_getElem? (i := 13) rfl)
theorem wk43_14 : Cond.methodLink RX8 405 yX6_drawX ∈ wsL_law := ch43 _ (List.mem_of_getElem? (i := 14) rfl)
theorem wk43_15 : Cond.methodLink RL 70 yX9_years ∈ wsL_law := ch43 _ (List.mem_of_getElem? (i := 15) rfl)
theorem wk43_16 : Cond.instanceMethod yX9_years ∈ wsL_law := ch43 _ (List.mem_of_getElem? (i := 16) rfl)
theorem wk43_17 : Cond.selects RX9 yX9_years yX9_years ∈ wsL_law := ch43 _ (List.mem_of_getElem? (i := 17) rfl)
theorem wk43_18 : Cond.code yX9_years cX9_years 5 (some .int) ∈ wsL_law := ch43 _ (List.mem_of_getElem? (i := 18) rfl)
theorem wk43_19 : Cond.methodLink RX9 387 yX9_happens ∈ wsL_law := ch43 _ (List.mem_of_getElem? (i := 19) rfl)
theorem wk43_20 : Cond.instanceMethod yX9_happens ∈ wsL_law := ch43 _ (List.mem_of_getElem? (i := 20) rfl)
theorem wk43_21 : Cond.selects RX9 yX9_happens yX9_happens ∈ wsL_law := ch43 _ (List.mem_of_getElem? (i := 21) rfl)
theorem wk43_22 : Cond.code yX9_happens cX9_happens 3 none ∈ wsL_law := ch43 _ (List.mem_of_getElem? (i := 22) rfl)
theorem wk43_23 : Cond.methodLink RL 71 yX8_undo ∈ wsL_law := ch43 _ (List.mem_of_getElem? (i := 23) rfl)
theorem wk44_0 : Cond.instanceMethod yX8_undo ∈ wsL_law := ch44 _ (List.mem_of_getElem? (i := 0) rfl)
theorem wk44_1 : Cond.selects RX8 yX8_undo yX8_undo ∈ wsL_law := ch44 _ (List.mem_of_getElem? (i := 1) rfl)
theorem wk44_2 : Cond.code yX8_undo cX8_undo 1 (some .int) ∈ wsL_law := ch44 _ (List.mem_of_getElem? (i := 2) rfl)
theorem wk44_3 : Cond.methodLink RX8 192 yX7_takeStepBack ∈ wsL_law := ch44 _ (List.mem_of_getElem? (i := 3) rfl)
theorem wk44_4 : Cond.instanceMethod yX7_takeStepBack ∈ wsL_law := ch44 _ (List.mem_of_getElem? (i := 4) rfl)
theorem wk44_5 : Cond.selects RX7 yX7_takeStepBack yX7_takeStepBack ∈ wsL_law := ch44 _ (List.mem_of_getElem? (i := 5) rfl)
theorem wk44_6 : Cond.code yX7_takeStepBack cX7_takeStepBack 1 (some .int) ∈ wsL_law := ch44 _ (List.mem_of_getElem? (i := 6) rfl)
theorem wk44_7 : Cond.methodLink RX7 67 yX6_returnTo ∈ wsL_law := ch44 _ (List.mem_of_getElem? (i := 7) rfl)
theorem wk44_8 : Cond.methodLink RL 74 yX9_undo ∈ wsL_law := ch44 _ (List.mem_of_getElem? (i := 8) rfl)
theorem wk44_9 : Cond.instanceMethod yX9_undo ∈ wsL_law := ch44 _ (List.mem_of_getElem? (i := 9) rfl)
theorem wk44_10 : Cond.selects RX9 yX9_undo yX9_undo ∈ wsL_law := ch44 _ (List.mem_of_getElem? (i := 10) rfl)
theorem wk44_11 : Cond.code yX9_undo cX9_undo 4 (some .int) ∈ wsL_law := ch44 _ (List.mem_of_getElem? (i := 11) rfl)
theorem wk44_12 : Cond.methodLink RL 75 yX8_of ∈ wsL_law := ch44 _ (List.mem_of_getElem? (i := 12) rfl)
theorem wk44_13 : Cond.instanceMethod yX8_of ∈ wsL_law := ch44 _ (List.mem_of_getElem? (i := 13) rfl)
theorem wk44_14 : Cond.selects RX8 yX8_of yX8_of ∈ wsL_law := ch44 _ (List.mem_of_getElem? (i := 14) rfl)
theorem wk44_15 : Cond.code yX8_of cX8_of 4 (some .int) ∈ wsL_law := ch44 _ (List.mem_of_getElem? (i := 15) rfl)
theorem wk44_16 : Cond.fieldLink RX8 198 "ShutDays$Town" "shut" "[I" ∈ wsL_law := ch44 _ (List.mem_of_getElem? (i := 16) rfl)
theorem wk44_17 : Cond.fieldLink RX8 201 "ShutDays$Town" "purse" "[I" ∈ wsL_law := ch44 _ (List.mem_of_getElem? (i := 17) rfl)
theorem wk44_18 : Cond.fieldLink RX8 204 "ShutDays$Town" "friends" "[I" ∈ wsL_law := ch44 _ (List.mem_of_getElem? (i := 18) rfl)
theorem wk44_19 : Cond.methodLink RX8 195 yX6_told ∈ wsL_law := ch44 _ (List.mem_of_getElem? (i := 19) rfl)
theorem wk44_20 : Cond.methodLink RX8 207 yX6_isGone ∈ wsL_law := ch44 _ (List.mem_of_getElem? (i := 20) rfl)
theorem wk44_21 : Cond.methodLink RX8 213 yX8_underTheLaw ∈ wsL_law := ch44 _ (List.mem_of_getElem? (i := 21) rfl)
theorem wk44_22 : Cond.instanceMethod yX8_underTheLaw ∈ wsL_law := ch44 _ (List.mem_of_getElem? (i := 22) rfl)
theorem wk44_23 : Cond.selects RX8 yX8_underTheLaw yX8_underTheLaw ∈ wsL_law := ch44 _ (List.mem_of_getElem? (i := 23) rfl)
theorem wk45_0 : Cond.code yX8_underTheLaw cX8_underTheLaw 4 (some .int) ∈ wsL_law := ch45 _ (List.mem_of_getElem? (i := 0) rfl)
theorem wk45_1 : Cond.methodLink RX8 353 yX3_earnedBy ∈ wsL_law := ch45 _ (List.mem_of_getElem? (i := 1) rfl)
theorem wk45_2 : Cond.methodLink RX8 357 yX3_lostBy ∈ wsL_law := ch45 _ (List.mem_of_getElem? (i := 2) rfl)
theorem wk45_3 : Cond.methodLink RX8 364 yX3_openBeside ∈ wsL_law := ch45 _ (List.mem_of_getElem? (i := 3) rfl)
theorem wk45_4 : Cond.methodLink RL 78 yX9_of ∈ wsL_law := ch45 _ (List.mem_of_getElem? (i := 4) rfl)
theorem wk45_5 : Cond.instanceMethod yX9_of ∈ wsL_law := ch45 _ (List.mem_of_getElem? (i := 5) rfl)
theorem wk45_6 : Cond.selects RX9 yX9_of yX9_of ∈ wsL_law := ch45 _ (List.mem_of_getElem? (i := 6) rfl)
theorem wk45_7 : Cond.code yX9_of cX9_of 3 (some .int) ∈ wsL_law := ch45 _ (List.mem_of_getElem? (i := 7) rfl)
theorem wk45_8 : Cond.methodLink RL 79 yX8_is ∈ wsL_law := ch45 _ (List.mem_of_getElem? (i := 8) rfl)
theorem wk45_9 : Cond.instanceMethod yX8_is ∈ wsL_law := ch45 _ (List.mem_of_getElem? (i := 9) rfl)
theorem wk45_10 : Cond.selects RX8 yX8_is yX8_is ∈ wsL_law := ch45 _ (List.mem_of_getElem? (i := 10) rfl)
theorem wk45_11 : Cond.code yX8_is cX8_is 3 (some .int) ∈ wsL_law := ch45 _ (List.mem_of_getElem? (i := 11) rfl)
theorem wk45_12 : Cond.methodLink RX8 216 yX6_openOn ∈ wsL_law := ch45 _ (List.mem_of_getElem? (i := 12) rfl)
theorem wk45_13 : Cond.methodLink RX8 219 yJ6_bitCount_0f7a4 ∈ wsL_law := ch45 _ (List.mem_of_getElem? (i := 13) rfl)
theorem wk45_14 : Cond.methodLink RL 82 yX9_is ∈ wsL_law := ch45 _ (List.mem_of_getElem? (i := 14) rfl)
theorem wk45_15 : Cond.instanceMethod yX9_is ∈ wsL_law := ch45 _ (List.mem_of_getElem? (i := 15) rfl)
theorem wk45_16 : Cond.selects RX9 yX9_is yX9_is ∈ wsL_law := ch45 _ (List.mem_of_getElem? (i := 16) rfl)
theorem wk45_17 : Cond.code yX9_is cX9_is 2 (some .int) ∈ wsL_law := ch45 _ (List.mem_of_getElem? (i := 17) rfl)
theorem wk45_18 : Cond.methodLink RL 83 yX8_book ∈ wsL_law := ch45 _ (List.mem_of_getElem? (i := 18) rfl)
theorem wk45_19 : Cond.instanceMethod yX8_book ∈ wsL_law := ch45 _ (List.mem_of_getElem? (i := 19) rfl)
theorem wk45_20 : Cond.selects RX8 yX8_book yX8_book ∈ wsL_law := ch45 _ (List.mem_of_getElem? (i := 20) rfl)
theorem wk45_21 : Cond.code yX8_book cX8_book 4 (some .int) ∈ wsL_law := ch45 _ (List.mem_of_getElem? (i := 21) rfl)
theorem wk45_22 : Cond.fieldLink RX8 224 "ShutDays$Town" "written" "I" ∈ wsL_law := ch45 _ (List.mem_of_getElem? (i := 22) rfl)
theorem wk45_23 : Cond.methodLink RX8 227 yX6_dayOfKnock ∈ wsL_law := ch45 _ (List.mem_of_getElem? (i := 23) rfl)
theorem wk46_0 : Cond.instanceMethod yX6_dayOfKnock ∈ wsL_law := ch46 _ (List.mem_of_getElem? (i := 0) rfl)
theorem wk46_1 : Cond.selects RX6 yX6_dayOfKnock yX6_dayOfKnock ∈ wsL_law := ch46 _ (List.mem_of_getElem? (i := 1) rfl)
theorem wk46_2 : Cond.code yX6_dayOfKnock cX6_dayOfKnock 2 (some .int) ∈ wsL_law := ch46 _ (List.mem_of_getElem? (i := 2) rfl)
theorem wk46_3 : Cond.methodLink RX8 230 yX6_houseOfKnock ∈ wsL_law := ch46 _ (List.mem_of_getElem? (i := 3) rfl)
theorem wk46_4 : Cond.instanceMethod yX6_houseOfKnock ∈ wsL_law := ch46 _ (List.mem_of_getElem? (i := 4) rfl)
theorem wk46_5 : Cond.selects RX6 yX6_houseOfKnock yX6_houseOfKnock ∈ wsL_law := ch46 _ (List.mem_of_getElem? (i := 5) rfl)
theorem wk46_6 : Cond.code yX6_houseOfKnock cX6_houseOfKnock 2 (some .int) ∈ wsL_law := ch46 _ (List.mem_of_getElem? (i := 6) rfl)
theorem wk46_7 : Cond.methodLink RX8 233 yX6_wasShut ∈ wsL_law := ch46 _ (List.mem_of_getElem? (i := 7) rfl)
theorem wk46_8 : Cond.instanceMethod yX6_wasShut ∈ wsL_law := ch46 _ (List.mem_of_getElem? (i := 8) rfl)
theorem wk46_9 : Cond.selects RX6 yX6_wasShut yX6_wasShut ∈ wsL_law := ch46 _ (List.mem_of_getElem? (i := 9) rfl)
theorem wk46_10 : Cond.code yX6_wasShut cX6_wasShut 2 (some .boolean) ∈ wsL_law := ch46 _ (List.mem_of_getElem? (i := 10) rfl)
theorem wk46_11 : Cond.methodLink RL 86 yX9_book ∈ wsL_law := ch46 _ (List.mem_of_getElem? (i := 11) rfl)
theorem wk46_12 : Cond.instanceMethod yX9_book ∈ wsL_law := ch46 _ (List.mem_of_getElem? (i := 12) rfl)
theorem wk46_13 : Cond.selects RX9 yX9_book yX9_book ∈ wsL_law := ch46 _ (List.mem_of_getElem? (i := 13) rfl)
theorem wk46_14 : Cond.code yX9_book cX9_book 3 (some .int) ∈ wsL_law := ch46 _ (List.mem_of_getElem? (i := 14) rfl)
theorem wk46_15 : Cond.methodLink RX9 390 yX9_entry ∈ wsL_law := ch46 _ (List.mem_of_getElem? (i := 15) rfl)
theorem wk46_16 : Cond.instanceMethod yX9_entry ∈ wsL_law := ch46 _ (List.mem_of_getElem? (i := 16) rfl)
theorem wk46_17 : Cond.selects RX9 yX9_entry yX9_entry ∈ wsL_law := ch46 _ (List.mem_of_getElem? (i := 17) rfl)
theorem wk46_18 : Cond.code yX9_entry cX9_entry 3 (some .int) ∈ wsL_law := ch46 _ (List.mem_of_getElem? (i := 18) rfl)
theorem wk46_19 : Cond.methodLink RL 87 yX8_foretold ∈ wsL_law := ch46 _ (List.mem_of_getElem? (i := 19) rfl)
theorem wk46_20 : Cond.instanceMethod yX8_foretold ∈ wsL_law := ch46 _ (List.mem_of_getElem? (i := 20) rfl)
theorem wk46_21 : Cond.selects RX8 yX8_foretold yX8_foretold ∈ wsL_law := ch46 _ (List.mem_of_getElem? (i := 21) rfl)
theorem wk46_22 : Cond.code yX8_foretold cX8_foretold 3 (some .int) ∈ wsL_law := ch46 _ (List.mem_of_getElem? (i := 22) rfl)
theorem wk46_23 : Cond.methodLink RX8 240 yX8_tryDays ∈ wsL_law := ch46 _ (List.mem_of_getElem? (i := 23) rfl)
theorem wk47_0 : Cond.instanceMethod yX8_tryDays ∈ wsL_law := ch47 _ (List.mem_of_getElem? (i := 0) rfl)
theorem wk47_1 : Cond.selects RX8 yX8_tryDays yX8_tryDays ∈ wsL_law := ch47 _ (List.mem_of_getElem? (i := 1) rfl)
theorem wk47_2 : Cond.code yX8_tryDays cX8_tryDays 4 none ∈ wsL_law := ch47 _ (List.mem_of_getElem? (i := 2) rfl)
theorem wk47_3 : Cond.methodLink RX8 378 yX6_copyFrom ∈ wsL_law := ch47 _ (List.mem_of_getElem? (i := 3) rfl)
theorem wk47_4 : Cond.methodLink RL 90 yX9_foretold ∈ wsL_law := ch47 _ (List.mem_of_getElem? (i := 4) rfl)
theorem wk47_5 : Cond.instanceMethod yX9_foretold ∈ wsL_law := ch47 _ (List.mem_of_getElem? (i := 5) rfl)
theorem wk47_6 : Cond.selects RX9 yX9_foretold yX9_foretold ∈ wsL_law := ch47 _ (List.mem_of_getElem? (i := 6) rfl)
theorem wk47_7 : Cond.code yX9_foretold cX9_foretold 4 (some .int) ∈ wsL_law := ch47 _ (List.mem_of_getElem? (i := 7) rfl)
theorem wk47_8 : Cond.methodLink RX9 396 yX9_setAside ∈ wsL_law := ch47 _ (List.mem_of_getElem? (i := 8) rfl)
theorem wk47_9 : Cond.instanceMethod yX9_setAside ∈ wsL_law := ch47 _ (List.mem_of_getElem? (i := 9) rfl)
theorem wk47_10 : Cond.selects RX9 yX9_setAside yX9_setAside ∈ wsL_law := ch47 _ (List.mem_of_getElem? (i := 10) rfl)
theorem wk47_11 : Cond.code yX9_setAside cX9_setAside 2 none ∈ wsL_law := ch47 _ (List.mem_of_getElem? (i := 11) rfl)
theorem wk47_12 : Cond.methodLink RX9 399 yX9_goOn ∈ wsL_law := ch47 _ (List.mem_of_getElem? (i := 12) rfl)
theorem wk47_13 : Cond.instanceMethod yX9_goOn ∈ wsL_law := ch47 _ (List.mem_of_getElem? (i := 13) rfl)
theorem wk47_14 : Cond.selects RX9 yX9_goOn yX9_goOn ∈ wsL_law := ch47 _ (List.mem_of_getElem? (i := 14) rfl)
theorem wk47_15 : Cond.code yX9_goOn cX9_goOn 3 none ∈ wsL_law := ch47 _ (List.mem_of_getElem? (i := 15) rfl)
theorem wk47_16 : Cond.methodLink RX9 402 yX9_putBack ∈ wsL_law := ch47 _ (List.mem_of_getElem? (i := 16) rfl)
theorem wk47_17 : Cond.instanceMethod yX9_putBack ∈ wsL_law := ch47 _ (List.mem_of_getElem? (i := 17) rfl)
theorem wk47_18 : Cond.selects RX9 yX9_putBack yX9_putBack ∈ wsL_law := ch47 _ (List.mem_of_getElem? (i := 18) rfl)
theorem wk47_19 : Cond.code yX9_putBack cX9_putBack 2 none ∈ wsL_law := ch47 _ (List.mem_of_getElem? (i := 19) rfl)
theorem wk47_20 : Cond.methodLink RL 91 yX8_indoors ∈ wsL_law := ch47 _ (List.mem_of_getElem? (i := 20) rfl)
theorem wk47_21 : Cond.instanceMethod yX8_indoors ∈ wsL_law := ch47 _ (List.mem_of_getElem? (i := 21) rfl)
theorem wk47_22 : Cond.selects RX8 yX8_indoors yX8_indoors ∈ wsL_law := ch47 _ (List.mem_of_getElem? (i := 22) rfl)
theorem wk47_23 : Cond.code yX8_indoors cX8_indoors 3 (some .int) ∈ wsL_law := ch47 _ (List.mem_of_getElem? (i := 23) rfl)
theorem wk48_0 : Cond.methodLink RX8 244 yX6_howManyShut ∈ wsL_law := ch48 _ (List.mem_of_getElem? (i := 0) rfl)
theorem wk48_1 : Cond.instanceMethod yX6_howManyShut ∈ wsL_law := ch48 _ (List.mem_of_getElem? (i := 1) rfl)
theorem wk48_2 : Cond.selects RX6 yX6_howManyShut yX6_howManyShut ∈ wsL_law := ch48 _ (List.mem_of_getElem? (i := 2) rfl)
theorem wk48_3 : Cond.code yX6_howManyShut cX6_howManyShut 2 (some .int) ∈ wsL_law := ch48 _ (List.mem_of_getElem? (i := 3) rfl)
theorem wk48_4 : Cond.methodLink RL 94 yX9_indoors ∈ wsL_law := ch48 _ (List.mem_of_getElem? (i := 4) rfl)
theorem wk48_5 : Cond.instanceMethod yX9_indoors ∈ wsL_law := ch48 _ (List.mem_of_getElem? (i := 5) rfl)
theorem wk48_6 : Cond.selects RX9 yX9_indoors yX9_indoors ∈ wsL_law := ch48 _ (List.mem_of_getElem? (i := 6) rfl)
theorem wk48_7 : Cond.code yX9_indoors cX9_indoors 3 (some .int) ∈ wsL_law := ch48 _ (List.mem_of_getElem? (i := 7) rfl)
theorem wk48_8 : Cond.methodLink RX9 405 yX9_shutOn ∈ wsL_law := ch48 _ (List.mem_of_getElem? (i := 8) rfl)
theorem wk48_9 : Cond.instanceMethod yX9_shutOn ∈ wsL_law := ch48 _ (List.mem_of_getElem? (i := 9) rfl)
theorem wk48_10 : Cond.selects RX9 yX9_shutOn yX9_shutOn ∈ wsL_law := ch48 _ (List.mem_of_getElem? (i := 10) rfl)
theorem wk48_11 : Cond.code yX9_shutOn cX9_shutOn 4 (some .int) ∈ wsL_law := ch48 _ (List.mem_of_getElem? (i := 11) rfl)
theorem wk48_12 : Cond.methodLink RL 95 yX8_crowded ∈ wsL_law := ch48 _ (List.mem_of_getElem? (i := 12) rfl)
theorem wk48_13 : Cond.instanceMethod yX8_crowded ∈ wsL_law := ch48 _ (List.mem_of_getElem? (i := 13) rfl)
theorem wk48_14 : Cond.selects RX8 yX8_crowded yX8_crowded ∈ wsL_law := ch48 _ (List.mem_of_getElem? (i := 14) rfl)
theorem wk48_15 : Cond.code yX8_crowded cX8_crowded 4 (some .int) ∈ wsL_law := ch48 _ (List.mem_of_getElem? (i := 15) rfl)
theorem wk48_16 : Cond.methodLink RL 99 yX9_crowded ∈ wsL_law := ch48 _ (List.mem_of_getElem? (i := 16) rfl)
theorem wk48_17 : Cond.instanceMethod yX9_crowded ∈ wsL_law := ch48 _ (List.mem_of_getElem? (i := 17) rfl)
theorem wk48_18 : Cond.selects RX9 yX9_crowded yX9_crowded ∈ wsL_law := ch48 _ (List.mem_of_getElem? (i := 18) rfl)
theorem wk48_19 : Cond.code yX9_crowded cX9_crowded 4 (some .int) ∈ wsL_law := ch48 _ (List.mem_of_getElem? (i := 19) rfl)
theorem wk48_20 : Cond.methodLink RL 100 yX8_feast ∈ wsL_law := ch48 _ (List.mem_of_getElem? (i := 20) rfl)
theorem wk48_21 : Cond.instanceMethod yX8_feast ∈ wsL_law := ch48 _ (List.mem_of_getElem? (i := 21) rfl)
theorem wk48_22 : Cond.selects RX8 yX8_feast yX8_feast ∈ wsL_law := ch48 _ (List.mem_of_getElem? (i := 22) rfl)
theorem wk48_23 : Cond.code yX8_feast cX8_feast 4 (some .int) ∈ wsL_law := ch48 _ (List.mem_of_getElem? (i := 23) rfl)
theorem wk49_0 : Cond.methodLink RX8 247 yX6_guestsOn ∈ wsL_law := ch49 _ (List.mem_of_getElem? (i := 0) rfl)
theorem wk49_1 : Cond.instanceMethod yX6_guestsOn ∈ wsL_law := ch49 _ (List.mem_of_getElem? (i := 1) rfl)
theorem wk49_2 : Cond.selects RX6 yX6_guestsOn yX6_guestsOn ∈ wsL_law := ch49 _ (List.mem_of_getElem? (i := 2) rfl)
theorem wk49_3 : Cond.code yX6_guestsOn cX6_guestsOn 5 (some .int) ∈ wsL_law := ch49 _ (List.mem_of_getElem? (i := 3) rfl)
theorem wk49_4 : Cond.methodLink RX6 108 yX6_openOn ∈ wsL_law := ch49 _ (List.mem_of_getElem? (i := 4) rfl)
theorem wk49_5 : Cond.methodLink RL 103 yX9_feast ∈ wsL_law := ch49 _ (List.mem_of_getElem? (i := 5) rfl)
theorem wk49_6 : Cond.instanceMethod yX9_feast ∈ wsL_law := ch49 _ (List.mem_of_getElem? (i := 6) rfl)
theorem wk49_7 : Cond.selects RX9 yX9_feast yX9_feast ∈ wsL_law := ch49 _ (List.mem_of_getElem? (i := 7) rfl)
theorem wk49_8 : Cond.code yX9_feast cX9_feast 4 (some .int) ∈ wsL_law := ch49 _ (List.mem_of_getElem? (i := 8) rfl)
theorem wk49_9 : Cond.methodLink RX9 408 yX9_friendsOn ∈ wsL_law := ch49 _ (List.mem_of_getElem? (i := 9) rfl)
theorem wk49_10 : Cond.instanceMethod yX9_friendsOn ∈ wsL_law := ch49 _ (List.mem_of_getElem? (i := 10) rfl)
theorem wk49_11 : Cond.selects RX9 yX9_friendsOn yX9_friendsOn ∈ wsL_law := ch49 _ (List.mem_of_getElem? (i := 11) rfl)
theorem wk49_12 : Cond.code yX9_friendsOn cX9_friendsOn 4 (some .int) ∈ wsL_law := ch49 _ (List.mem_of_getElem? (i := 12) rfl)
theorem wk49_13 : Cond.methodLink RL 104 yX8_alone ∈ wsL_law := ch49 _ (List.mem_of_getElem? (i := 13) rfl)
theorem wk49_14 : Cond.instanceMethod yX8_alone ∈ wsL_law := ch49 _ (List.mem_of_getElem? (i := 14) rfl)
theorem wk49_15 : Cond.selects RX8 yX8_alone yX8_alone ∈ wsL_law := ch49 _ (List.mem_of_getElem? (i := 15) rfl)
theorem wk49_16 : Cond.code yX8_alone cX8_alone 4 (some .int) ∈ wsL_law := ch49 _ (List.mem_of_getElem? (i := 16) rfl)
theorem wk49_17 : Cond.methodLink RX8 250 yX6_datesBut ∈ wsL_law := ch49 _ (List.mem_of_getElem? (i := 17) rfl)
theorem wk49_18 : Cond.instanceMethod yX6_datesBut ∈ wsL_law := ch49 _ (List.mem_of_getElem? (i := 18) rfl)
theorem wk49_19 : Cond.selects RX6 yX6_datesBut yX6_datesBut ∈ wsL_law := ch49 _ (List.mem_of_getElem? (i := 19) rfl)
theorem wk49_20 : Cond.code yX6_datesBut cX6_datesBut 4 (some .int) ∈ wsL_law := ch49 _ (List.mem_of_getElem? (i := 20) rfl)
theorem wk49_21 : Cond.methodLink RL 107 yX9_alone ∈ wsL_law := ch49 _ (List.mem_of_getElem? (i := 21) rfl)
theorem wk49_22 : Cond.instanceMethod yX9_alone ∈ wsL_law := ch49 _ (List.mem_of_getElem? (i := 22) rfl)
theorem wk49_23 : Cond.selects RX9 yX9_alone yX9_alone ∈ wsL_law := ch49 _ (List.mem_of_getElem? (i := 23) rfl)
theorem wk50_0 : Cond.code yX9_alone cX9_alone 5 (some .int) ∈ wsL_law := ch50 _ (List.mem_of_getElem? (i := 0) rfl)
theorem wk50_1 : Cond.methodLink RL 108 yX8_nobodys ∈ wsL_law := ch50 _ (List.mem_of_getElem? (i := 1) rfl)
theorem wk50_2 : Cond.instanceMethod yX8_nobodys ∈ wsL_law := ch50 _ (List.mem_of_getElem? (i := 2) rfl)
theorem wk50_3 : Cond.selects RX8 yX8_nobodys yX8_nobodys ∈ wsL_law := ch50 _ (List.mem_of_getElem? (i := 3) rfl)
theorem wk50_4 : Cond.code yX8_nobodys cX8_nobodys 1 (some .int) ∈ wsL_law := ch50 _ (List.mem_of_getElem? (i := 4) rfl)
theorem wk50_5 : Cond.constant RX8 253 (1048575) ∈ wsL_law := ch50 _ (List.mem_of_getElem? (i := 5) rfl)
theorem wk50_6 : Cond.methodLink RL 111 yX9_nobodys ∈ wsL_law := ch50 _ (List.mem_of_getElem? (i := 6) rfl)
theorem wk50_7 : Cond.instanceMethod yX9_nobodys ∈ wsL_law := ch50 _ (List.mem_of_getElem? (i := 7) rfl)
theorem wk50_8 : Cond.selects RX9 yX9_nobodys yX9_nobodys ∈ wsL_law := ch50 _ (List.mem_of_getElem? (i := 8) rfl)
theorem wk50_9 : Cond.code yX9_nobodys cX9_nobodys 3 (some .int) ∈ wsL_law := ch50 _ (List.mem_of_getElem? (i := 9) rfl)
theorem wk50_10 : Cond.methodLink RL 112 yX8_poorest ∈ wsL_law := ch50 _ (List.mem_of_getElem? (i := 10) rfl)
theorem wk50_11 : Cond.instanceMethod yX8_poorest ∈ wsL_law := ch50 _ (List.mem_of_getElem? (i := 11) rfl)
theorem wk50_12 : Cond.selects RX8 yX8_poorest yX8_poorest ∈ wsL_law := ch50 _ (List.mem_of_getElem? (i := 12) rfl)
theorem wk50_13 : Cond.code yX8_poorest cX8_poorest 4 (some .int) ∈ wsL_law := ch50 _ (List.mem_of_getElem? (i := 13) rfl)
theorem wk50_14 : Cond.methodLink RL 115 yX9_poorest ∈ wsL_law := ch50 _ (List.mem_of_getElem? (i := 14) rfl)
theorem wk50_15 : Cond.instanceMethod yX9_poorest ∈ wsL_law := ch50 _ (List.mem_of_getElem? (i := 15) rfl)
theorem wk50_16 : Cond.selects RX9 yX9_poorest yX9_poorest ∈ wsL_law := ch50 _ (List.mem_of_getElem? (i := 16) rfl)
theorem wk50_17 : Cond.code yX9_poorest cX9_poorest 4 (some .int) ∈ wsL_law := ch50 _ (List.mem_of_getElem? (i := 17) rfl)
theorem wk50_18 : Cond.methodLink RL 116 yX8_seen ∈ wsL_law := ch50 _ (List.mem_of_getElem? (i := 18) rfl)
theorem wk50_19 : Cond.instanceMethod yX8_seen ∈ wsL_law := ch50 _ (List.mem_of_getElem? (i := 19) rfl)
theorem wk50_20 : Cond.selects RX8 yX8_seen yX8_seen ∈ wsL_law := ch50 _ (List.mem_of_getElem? (i := 20) rfl)
theorem wk50_21 : Cond.code yX8_seen cX8_seen 4 (some .int) ∈ wsL_law := ch50 _ (List.mem_of_getElem? (i := 21) rfl)
theorem wk50_22 : Cond.fieldLink RX8 254 "ShutDays$World" "seenCount" "I" ∈ wsL_law := ch50 _ (List.mem_of_getElem? (i := 22) rfl)
theorem wk50_23 : Cond.fieldLink RX8 260 "ShutDays$World" "seenHouse" "[I" ∈ wsL_law := ch50 _ (List.mem_of_getElem? (i := 23) rfl)
theorem wk51_0 : Cond.fieldLink RX8 263 "ShutDays$World" "seenDate" "[I" ∈ wsL_law := ch51 _ (List.mem_of_getElem? (i := 0) rfl)
theorem wk51_1 : Cond.fieldLink RX8 266 "ShutDays$World" "seenShut" "[I" ∈ wsL_law := ch51 _ (List.mem_of_getElem? (i := 1) rfl)
theorem wk51_2 : Cond.methodLink RL 120 yX9_seen ∈ wsL_law := ch51 _ (List.mem_of_getElem? (i := 2) rfl)
theorem wk51_3 : Cond.instanceMethod yX9_seen ∈ wsL_law := ch51 _ (List.mem_of_getElem? (i := 3) rfl)
theorem wk51_4 : Cond.selects RX9 yX9_seen yX9_seen ∈ wsL_law := ch51 _ (List.mem_of_getElem? (i := 4) rfl)
theorem wk51_5 : Cond.code yX9_seen cX9_seen 5 (some .int) ∈ wsL_law := ch51 _ (List.mem_of_getElem? (i := 5) rfl)
theorem wk51_6 : Cond.methodLink RL 121 yX8_sets ∈ wsL_law := ch51 _ (List.mem_of_getElem? (i := 6) rfl)
theorem wk51_7 : Cond.instanceMethod yX8_sets ∈ wsL_law := ch51 _ (List.mem_of_getElem? (i := 7) rfl)
theorem wk51_8 : Cond.selects RX8 yX8_sets yX8_sets ∈ wsL_law := ch51 _ (List.mem_of_getElem? (i := 8) rfl)
theorem wk51_9 : Cond.code yX8_sets cX8_sets 4 (some .int) ∈ wsL_law := ch51 _ (List.mem_of_getElem? (i := 9) rfl)
theorem wk51_10 : Cond.fieldLink RX8 279 "ShutDays$Guess" "count" "I" ∈ wsL_law := ch51 _ (List.mem_of_getElem? (i := 10) rfl)
theorem wk51_11 : Cond.methodLink RX8 269 yX8_isGuess ∈ wsL_law := ch51 _ (List.mem_of_getElem? (i := 11) rfl)
theorem wk51_12 : Cond.instanceMethod yX8_isGuess ∈ wsL_law := ch51 _ (List.mem_of_getElem? (i := 12) rfl)
theorem wk51_13 : Cond.selects RX8 yX8_isGuess yX8_isGuess ∈ wsL_law := ch51 _ (List.mem_of_getElem? (i := 13) rfl)
theorem wk51_14 : Cond.code yX8_isGuess cX8_isGuess 3 (some .boolean) ∈ wsL_law := ch51 _ (List.mem_of_getElem? (i := 14) rfl)
theorem wk51_15 : Cond.methodLink RX8 272 yX2_lookAt ∈ wsL_law := ch51 _ (List.mem_of_getElem? (i := 15) rfl)
theorem wk51_16 : Cond.instanceMethod yX2_lookAt ∈ wsL_law := ch51 _ (List.mem_of_getElem? (i := 16) rfl)
theorem wk51_17 : Cond.selects RX2 yX2_lookAt yX2_lookAt ∈ wsL_law := ch51 _ (List.mem_of_getElem? (i := 17) rfl)
theorem wk51_18 : Cond.code yX2_lookAt cX2_lookAt 5 none ∈ wsL_law := ch51 _ (List.mem_of_getElem? (i := 18) rfl)
theorem wk51_19 : Cond.fieldLink RX2 9 "ShutDays$Guess" "within" "I" ∈ wsL_law := ch51 _ (List.mem_of_getElem? (i := 19) rfl)
theorem wk51_20 : Cond.fieldLink RX2 15 "ShutDays$Guess" "without" "I" ∈ wsL_law := ch51 _ (List.mem_of_getElem? (i := 20) rfl)
theorem wk51_21 : Cond.fieldLink RX2 18 "ShutDays$World" "town" "LShutDays$Town;" ∈ wsL_law := ch51 _ (List.mem_of_getElem? (i := 21) rfl)
theorem wk51_22 : Cond.fieldLink RX2 24 "ShutDays$Town" "written" "I" ∈ wsL_law := ch51 _ (List.mem_of_getElem? (i := 22) rfl)
theorem wk51_23 : Cond.fieldLink RX2 44 "ShutDays$World" "seenCount" "I" ∈ wsL_law := ch51 _ (List.mem_of_getElem? (i := 23) rfl)
theorem wk52_0 : Cond.fieldLink RX2 47 "ShutDays$World" "seenHouse" "[I" ∈ wsL_law := ch52 _ (List.mem_of_getElem? (i := 0) rfl)
theorem wk52_1 : Cond.fieldLink RX2 51 "ShutDays$World" "seenDate" "[I" ∈ wsL_law := ch52 _ (List.mem_of_getElem? (i := 1) rfl)
theorem wk52_2 : Cond.fieldLink RX2 54 "ShutDays$World" "seenShut" "[I" ∈ wsL_law := ch52 _ (List.mem_of_getElem? (i := 2) rfl)
theorem wk52_3 : Cond.fieldLink RX2 62 "ShutDays$Guess" "free" "I" ∈ wsL_law := ch52 _ (List.mem_of_getElem? (i := 3) rfl)
theorem wk52_4 : Cond.fieldLink RX2 65 "ShutDays$Guess" "wanted" "I" ∈ wsL_law := ch52 _ (List.mem_of_getElem? (i := 4) rfl)
theorem wk52_5 : Cond.fieldLink RX2 72 "ShutDays$Guess" "count" "I" ∈ wsL_law := ch52 _ (List.mem_of_getElem? (i := 5) rfl)
theorem wk52_6 : Cond.methodLink RX2 29 yX6_houseOfKnock ∈ wsL_law := ch52 _ (List.mem_of_getElem? (i := 6) rfl)
theorem wk52_7 : Cond.methodLink RX2 33 yX6_dayOfKnock ∈ wsL_law := ch52 _ (List.mem_of_getElem? (i := 7) rfl)
theorem wk52_8 : Cond.methodLink RX2 36 yX6_wasShut ∈ wsL_law := ch52 _ (List.mem_of_getElem? (i := 8) rfl)
theorem wk52_9 : Cond.methodLink RX2 40 yX2_note ∈ wsL_law := ch52 _ (List.mem_of_getElem? (i := 9) rfl)
theorem wk52_10 : Cond.instanceMethod yX2_note ∈ wsL_law := ch52 _ (List.mem_of_getElem? (i := 10) rfl)
theorem wk52_11 : Cond.selects RX2 yX2_note yX2_note ∈ wsL_law := ch52 _ (List.mem_of_getElem? (i := 11) rfl)
theorem wk52_12 : Cond.code yX2_note cX2_note 3 none ∈ wsL_law := ch52 _ (List.mem_of_getElem? (i := 12) rfl)
theorem wk52_13 : Cond.methodLink RX2 57 yJ6_bitCount_0f7a4 ∈ wsL_law := ch52 _ (List.mem_of_getElem? (i := 13) rfl)
theorem wk52_14 : Cond.methodLink RX2 68 yX2_choices ∈ wsL_law := ch52 _ (List.mem_of_getElem? (i := 14) rfl)
theorem wk52_15 : Cond.static yX2_choices ∈ wsL_law := ch52 _ (List.mem_of_getElem? (i := 15) rfl)
theorem wk52_16 : Cond.code yX2_choices cX2_choices 2 (some .int) ∈ wsL_law := ch52 _ (List.mem_of_getElem? (i := 16) rfl)
theorem wk52_17 : Cond.methodLink RX8 276 yX2_inAll ∈ wsL_law := ch52 _ (List.mem_of_getElem? (i := 17) rfl)
theorem wk52_18 : Cond.instanceMethod yX2_inAll ∈ wsL_law := ch52 _ (List.mem_of_getElem? (i := 18) rfl)
theorem wk52_19 : Cond.selects RX2 yX2_inAll yX2_inAll ∈ wsL_law := ch52 _ (List.mem_of_getElem? (i := 19) rfl)
theorem wk52_20 : Cond.code yX2_inAll cX2_inAll 3 (some .int) ∈ wsL_law := ch52 _ (List.mem_of_getElem? (i := 20) rfl)
theorem wk52_21 : Cond.methodLink RX2 75 yX2_countWith ∈ wsL_law := ch52 _ (List.mem_of_getElem? (i := 21) rfl)
theorem wk52_22 : Cond.instanceMethod yX2_countWith ∈ wsL_law := ch52 _ (List.mem_of_getElem? (i := 22) rfl)
theorem wk52_23 : Cond.selects RX2 yX2_countWith yX2_countWith ∈ wsL_law := ch52 _ (List.mem_of_getElem? (i := 23) rfl)
theorem wk53_0 : Cond.code yX2_countWith cX2_countWith 2 (some .int) ∈ wsL_law := ch53 _ (List.mem_of_getElem? (i := 0) rfl)
theorem wk53_1 : Cond.methodLink RL 124 yX9_sets ∈ wsL_law := ch53 _ (List.mem_of_getElem? (i := 1) rfl)
theorem wk53_2 : Cond.instanceMethod yX9_sets ∈ wsL_law := ch53 _ (List.mem_of_getElem? (i := 2) rfl)
theorem wk53_3 : Cond.selects RX9 yX9_sets yX9_sets ∈ wsL_law := ch53 _ (List.mem_of_getElem? (i := 3) rfl)
theorem wk53_4 : Cond.code yX9_sets cX9_sets 4 (some .int) ∈ wsL_law := ch53 _ (List.mem_of_getElem? (i := 4) rfl)
theorem wk53_5 : Cond.fieldLink RX9 417 "ShutDaysModel" "sets" "I" ∈ wsL_law := ch53 _ (List.mem_of_getElem? (i := 5) rfl)
theorem wk53_6 : Cond.fieldLink RX9 420 "ShutDaysModel" "inAll" "I" ∈ wsL_law := ch53 _ (List.mem_of_getElem? (i := 6) rfl)
theorem wk53_7 : Cond.methodLink RX9 430 yX9_laySets ∈ wsL_law := ch53 _ (List.mem_of_getElem? (i := 7) rfl)
theorem wk53_8 : Cond.instanceMethod yX9_laySets ∈ wsL_law := ch53 _ (List.mem_of_getElem? (i := 8) rfl)
theorem wk53_9 : Cond.selects RX9 yX9_laySets yX9_laySets ∈ wsL_law := ch53 _ (List.mem_of_getElem? (i := 9) rfl)
theorem wk53_10 : Cond.code yX9_laySets cX9_laySets 6 none ∈ wsL_law := ch53 _ (List.mem_of_getElem? (i := 10) rfl)
theorem wk53_11 : Cond.fieldLink RX9 411 "ShutDaysModel" "wasShut" "I" ∈ wsL_law := ch53 _ (List.mem_of_getElem? (i := 11) rfl)
theorem wk53_12 : Cond.fieldLink RX9 414 "ShutDaysModel" "wasOpen" "I" ∈ wsL_law := ch53 _ (List.mem_of_getElem? (i := 12) rfl)
theorem wk53_13 : Cond.constant RX9 426 (1048575) ∈ wsL_law := ch53 _ (List.mem_of_getElem? (i := 13) rfl)
theorem wk53_14 : Cond.methodLink RX9 423 yX9_note ∈ wsL_law := ch53 _ (List.mem_of_getElem? (i := 14) rfl)
theorem wk53_15 : Cond.instanceMethod yX9_note ∈ wsL_law := ch53 _ (List.mem_of_getElem? (i := 15) rfl)
theorem wk53_16 : Cond.selects RX9 yX9_note yX9_note ∈ wsL_law := ch53 _ (List.mem_of_getElem? (i := 16) rfl)
theorem wk53_17 : Cond.code yX9_note cX9_note 3 none ∈ wsL_law := ch53 _ (List.mem_of_getElem? (i := 17) rfl)
theorem wk53_18 : Cond.methodLink RX9 427 yX9_count ∈ wsL_law := ch53 _ (List.mem_of_getElem? (i := 18) rfl)
theorem wk53_19 : Cond.instanceMethod yX9_count ∈ wsL_law := ch53 _ (List.mem_of_getElem? (i := 19) rfl)
theorem wk53_20 : Cond.selects RX9 yX9_count yX9_count ∈ wsL_law := ch53 _ (List.mem_of_getElem? (i := 20) rfl)
theorem wk53_21 : Cond.code yX9_count cX9_count 3 none ∈ wsL_law := ch53 _ (List.mem_of_getElem? (i := 21) rfl)
theorem wk53_22 : Cond.methodLink RL 125 yX8_odds ∈ wsL_law := ch53 _ (List.mem_of_getElem? (i := 22) rfl)
theorem wk53_23 : Cond.instanceMethod yX8_odds ∈ wsL_law := ch53 _ (List.mem_of_getElem? (i := 23) rfl)
theorem wk54_0 : Cond.selects RX8 yX8_odds yX8_odds ∈ wsL_law := ch54 _ (List.mem_of_getElem? (i := 0) rfl)
theorem wk54_1 : Cond.code yX8_odds cX8_odds 7 (some .int) ∈ wsL_law := ch54 _ (List.mem_of_getElem? (i := 1) rfl)
theorem wk54_2 : Cond.methodLink RX8 282 yX2_countWith ∈ wsL_law := ch54 _ (List.mem_of_getElem? (i := 2) rfl)
theorem wk54_3 : Cond.methodLink RX8 285 yX8_commonDivisor ∈ wsL_law := ch54 _ (List.mem_of_getElem? (i := 3) rfl)
theorem wk54_4 : Cond.static yX8_commonDivisor ∈ wsL_law := ch54 _ (List.mem_of_getElem? (i := 4) rfl)
theorem wk54_5 : Cond.code yX8_commonDivisor cX8_commonDivisor 6 (some .int) ∈ wsL_law := ch54 _ (List.mem_of_getElem? (i := 5) rfl)
theorem wk54_6 : Cond.methodLink RL 129 yX9_odds ∈ wsL_law := ch54 _ (List.mem_of_getElem? (i := 6) rfl)
theorem wk54_7 : Cond.instanceMethod yX9_odds ∈ wsL_law := ch54 _ (List.mem_of_getElem? (i := 7) rfl)
theorem wk54_8 : Cond.selects RX9 yX9_odds yX9_odds ∈ wsL_law := ch54 _ (List.mem_of_getElem? (i := 8) rfl)
theorem wk54_9 : Cond.code yX9_odds cX9_odds 5 (some .int) ∈ wsL_law := ch54 _ (List.mem_of_getElem? (i := 9) rfl)
theorem wk54_10 : Cond.methodLink RX9 433 yX9_common ∈ wsL_law := ch54 _ (List.mem_of_getElem? (i := 10) rfl)
theorem wk54_11 : Cond.static yX9_common ∈ wsL_law := ch54 _ (List.mem_of_getElem? (i := 11) rfl)
theorem wk54_12 : Cond.code yX9_common cX9_common 5 (some .int) ∈ wsL_law := ch54 _ (List.mem_of_getElem? (i := 12) rfl)
theorem wk54_13 : Cond.methodLink RL 130 yX8_nextKnock ∈ wsL_law := ch54 _ (List.mem_of_getElem? (i := 13) rfl)
theorem wk54_14 : Cond.instanceMethod yX8_nextKnock ∈ wsL_law := ch54 _ (List.mem_of_getElem? (i := 14) rfl)
theorem wk54_15 : Cond.selects RX8 yX8_nextKnock yX8_nextKnock ∈ wsL_law := ch54 _ (List.mem_of_getElem? (i := 15) rfl)
theorem wk54_16 : Cond.code yX8_nextKnock cX8_nextKnock 6 (some .int) ∈ wsL_law := ch54 _ (List.mem_of_getElem? (i := 16) rfl)
theorem wk54_17 : Cond.methodLink RX8 288 yX2_offHalf ∈ wsL_law := ch54 _ (List.mem_of_getElem? (i := 17) rfl)
theorem wk54_18 : Cond.instanceMethod yX2_offHalf ∈ wsL_law := ch54 _ (List.mem_of_getElem? (i := 18) rfl)
theorem wk54_19 : Cond.selects RX2 yX2_offHalf yX2_offHalf ∈ wsL_law := ch54 _ (List.mem_of_getElem? (i := 19) rfl)
theorem wk54_20 : Cond.code yX2_offHalf cX2_offHalf 2 (some .int) ∈ wsL_law := ch54 _ (List.mem_of_getElem? (i := 20) rfl)
theorem wk54_21 : Cond.methodLink RX2 78 Lib.Math.abs.name ∈ wsL_law := ch54 _ (List.mem_of_getElem? (i := 21) rfl)
theorem wk54_22 : Cond.methodLink RL 133 yX9_nextKnock ∈ wsL_law := ch54 _ (List.mem_of_getElem? (i := 22) rfl)
theorem wk54_23 : Cond.instanceMethod yX9_nextKnock ∈ wsL_law := ch54 _ (List.mem_of_getElem? (i := 23) rfl)
theorem wk55_0 : Cond.selects RX9 yX9_nextKnock yX9_nextKnock ∈ wsL_law := ch55 _ (List.mem_of_getElem? (i := 0) rfl)
theorem wk55_1 : Cond.code yX9_nextKnock cX9_nextKnock 7 (some .int) ∈ wsL_law := ch55 _ (List.mem_of_getElem? (i := 1) rfl)
theorem wk55_2 : Cond.constant RX9 436 (1000000000) ∈ wsL_law := ch55 _ (List.mem_of_getElem? (i := 2) rfl)
theorem wk55_3 : Cond.methodLink RL 134 yX8_thieves ∈ wsL_law := ch55 _ (List.mem_of_getElem? (i := 3) rfl)
theorem wk55_4 : Cond.instanceMethod yX8_thieves ∈ wsL_law := ch55 _ (List.mem_of_getElem? (i := 4) rfl)
theorem wk55_5 : Cond.selects RX8 yX8_thieves yX8_thieves ∈ wsL_law := ch55 _ (List.mem_of_getElem? (i := 5) rfl)
theorem wk55_6 : Cond.code yX8_thieves cX8_thieves 5 (some .int) ∈ wsL_law := ch55 _ (List.mem_of_getElem? (i := 6) rfl)
theorem wk55_7 : Cond.methodLink RX8 291 yX6_robbedFirst ∈ wsL_law := ch55 _ (List.mem_of_getElem? (i := 7) rfl)
theorem wk55_8 : Cond.instanceMethod yX6_robbedFirst ∈ wsL_law := ch55 _ (List.mem_of_getElem? (i := 8) rfl)
theorem wk55_9 : Cond.selects RX6 yX6_robbedFirst yX6_robbedFirst ∈ wsL_law := ch55 _ (List.mem_of_getElem? (i := 9) rfl)
theorem wk55_10 : Cond.code yX6_robbedFirst cX6_robbedFirst 5 (some .int) ∈ wsL_law := ch55 _ (List.mem_of_getElem? (i := 10) rfl)
theorem wk55_11 : Cond.methodLink RX6 111 yX6_loot ∈ wsL_law := ch55 _ (List.mem_of_getElem? (i := 11) rfl)
theorem wk55_12 : Cond.instanceMethod yX6_loot ∈ wsL_law := ch55 _ (List.mem_of_getElem? (i := 12) rfl)
theorem wk55_13 : Cond.selects RX6 yX6_loot yX6_loot ∈ wsL_law := ch55 _ (List.mem_of_getElem? (i := 13) rfl)
theorem wk55_14 : Cond.code yX6_loot cX6_loot 7 (some .int) ∈ wsL_law := ch55 _ (List.mem_of_getElem? (i := 14) rfl)
theorem wk55_15 : Cond.methodLink RX8 294 yX6_loot ∈ wsL_law := ch55 _ (List.mem_of_getElem? (i := 15) rfl)
theorem wk55_16 : Cond.methodLink RL 137 yX9_thieves ∈ wsL_law := ch55 _ (List.mem_of_getElem? (i := 16) rfl)
theorem wk55_17 : Cond.instanceMethod yX9_thieves ∈ wsL_law := ch55 _ (List.mem_of_getElem? (i := 17) rfl)
theorem wk55_18 : Cond.selects RX9 yX9_thieves yX9_thieves ∈ wsL_law := ch55 _ (List.mem_of_getElem? (i := 18) rfl)
theorem wk55_19 : Cond.code yX9_thieves cX9_thieves 4 (some .int) ∈ wsL_law := ch55 _ (List.mem_of_getElem? (i := 19) rfl)
theorem wk55_20 : Cond.fieldLink RX9 440 "ShutDaysModel" "firstStolen" "I" ∈ wsL_law := ch55 _ (List.mem_of_getElem? (i := 20) rfl)
theorem wk55_21 : Cond.fieldLink RX9 437 "ShutDaysModel" "mostStolen" "I" ∈ wsL_law := ch55 _ (List.mem_of_getElem? (i := 21) rfl)
theorem wk55_22 : Cond.methodLink RX9 443 yX9_layThieves ∈ wsL_law := ch55 _ (List.mem_of_getElem? (i := 22) rfl)
theorem wk55_23 : Cond.instanceMethod yX9_layThieves ∈ wsL_law := ch55 _ (List.mem_of_getElem? (i := 23) rfl)
theorem wk56_0 : Cond.selects RX9 yX9_layThieves yX9_layThieves ∈ wsL_law := ch56 _ (List.mem_of_getElem? (i := 0) rfl)
theorem wk56_1 : Cond.code yX9_layThieves cX9_layThieves 7 none ∈ wsL_law := ch56 _ (List.mem_of_getElem? (i := 1) rfl)
theorem wk56_2 : Cond.methodLink RL 138 yX8_night ∈ wsL_law := ch56 _ (List.mem_of_getElem? (i := 2) rfl)
theorem wk56_3 : Cond.instanceMethod yX8_night ∈ wsL_law := ch56 _ (List.mem_of_getElem? (i := 3) rfl)
theorem wk56_4 : Cond.selects RX8 yX8_night yX8_night ∈ wsL_law := ch56 _ (List.mem_of_getElem? (i := 4) rfl)
theorem wk56_5 : Cond.code yX8_night cX8_night 6 (some .int) ∈ wsL_law := ch56 _ (List.mem_of_getElem? (i := 5) rfl)
theorem wk56_6 : Cond.methodLink RL 141 yX9_night ∈ wsL_law := ch56 _ (List.mem_of_getElem? (i := 6) rfl)
theorem wk56_7 : Cond.instanceMethod yX9_night ∈ wsL_law := ch56 _ (List.mem_of_getElem? (i := 7) rfl)
theorem wk56_8 : Cond.selects RX9 yX9_night yX9_night ∈ wsL_law := ch56 _ (List.mem_of_getElem? (i := 8) rfl)
theorem wk56_9 : Cond.code yX9_night cX9_night 5 (some .int) ∈ wsL_law := ch56 _ (List.mem_of_getElem? (i := 9) rfl)
theorem wk56_10 : Cond.methodLink RL 142 yX8_appointments ∈ wsL_law := ch56 _ (List.mem_of_getElem? (i := 10) rfl)
theorem wk56_11 : Cond.instanceMethod yX8_appointments ∈ wsL_law := ch56 _ (List.mem_of_getElem? (i := 11) rfl)
theorem wk56_12 : Cond.selects RX8 yX8_appointments yX8_appointments ∈ wsL_law := ch56 _ (List.mem_of_getElem? (i := 12) rfl)
theorem wk56_13 : Cond.code yX8_appointments cX8_appointments 4 (some .int) ∈ wsL_law := ch56 _ (List.mem_of_getElem? (i := 13) rfl)
theorem wk56_14 : Cond.fieldLink RX8 304 "ShutDays$Diary" "length" "I" ∈ wsL_law := ch56 _ (List.mem_of_getElem? (i := 14) rfl)
theorem wk56_15 : Cond.fieldLink RX8 307 "ShutDays$Diary" "dayOf" "[I" ∈ wsL_law := ch56 _ (List.mem_of_getElem? (i := 15) rfl)
theorem wk56_16 : Cond.methodLink RX8 297 yX6_living ∈ wsL_law := ch56 _ (List.mem_of_getElem? (i := 16) rfl)
theorem wk56_17 : Cond.methodLink RX8 300 yX1_plan ∈ wsL_law := ch56 _ (List.mem_of_getElem? (i := 17) rfl)
theorem wk56_18 : Cond.instanceMethod yX1_plan ∈ wsL_law := ch56 _ (List.mem_of_getElem? (i := 18) rfl)
theorem wk56_19 : Cond.selects RX1 yX1_plan yX1_plan ∈ wsL_law := ch56 _ (List.mem_of_getElem? (i := 19) rfl)
theorem wk56_20 : Cond.code yX1_plan cX1_plan 3 none ∈ wsL_law := ch56 _ (List.mem_of_getElem? (i := 20) rfl)
theorem wk56_21 : Cond.fieldLink RX1 21 "ShutDays$Diary" "length" "I" ∈ wsL_law := ch56 _ (List.mem_of_getElem? (i := 21) rfl)
theorem wk56_22 : Cond.methodLink RX1 15 yJ6_bitCount_0f7a4 ∈ wsL_law := ch56 _ (List.mem_of_getElem? (i := 22) rfl)
theorem wk56_23 : Cond.methodLink RX1 25 yX1_canPlace ∈ wsL_law := ch56 _ (List.mem_of_getElem? (i := 23) rfl)
theorem wk57_0 : Cond.static yX1_canPlace ∈ wsL_law := ch57 _ (List.mem_of_getElem? (i := 0) rfl)
theorem wk57_1 : Cond.code yX1_canPlace cX1_canPlace 7 (some .boolean) ∈ wsL_law := ch57 _ (List.mem_of_getElem? (i := 1) rfl)
theorem wk57_2 : Cond.fieldLink RX1 29 "ShutDays$Town" "day" "I" ∈ wsL_law := ch57 _ (List.mem_of_getElem? (i := 2) rfl)
theorem wk57_3 : Cond.methodLink RX1 34 yX6_isShut ∈ wsL_law := ch57 _ (List.mem_of_getElem? (i := 3) rfl)
theorem wk57_4 : Cond.methodLink RL 145 yX9_appointments ∈ wsL_law := ch57 _ (List.mem_of_getElem? (i := 4) rfl)
theorem wk57_5 : Cond.instanceMethod yX9_appointments ∈ wsL_law := ch57 _ (List.mem_of_getElem? (i := 5) rfl)
theorem wk57_6 : Cond.selects RX9 yX9_appointments yX9_appointments ∈ wsL_law := ch57 _ (List.mem_of_getElem? (i := 6) rfl)
theorem wk57_7 : Cond.code yX9_appointments cX9_appointments 7 (some .int) ∈ wsL_law := ch57 _ (List.mem_of_getElem? (i := 7) rfl)
theorem wk57_8 : Cond.methodLink RX9 446 yX9_areHere ∈ wsL_law := ch57 _ (List.mem_of_getElem? (i := 8) rfl)
theorem wk57_9 : Cond.instanceMethod yX9_areHere ∈ wsL_law := ch57 _ (List.mem_of_getElem? (i := 9) rfl)
theorem wk57_10 : Cond.selects RX9 yX9_areHere yX9_areHere ∈ wsL_law := ch57 _ (List.mem_of_getElem? (i := 10) rfl)
theorem wk57_11 : Cond.code yX9_areHere cX9_areHere 3 (some .boolean) ∈ wsL_law := ch57 _ (List.mem_of_getElem? (i := 11) rfl)
theorem wk57_12 : Cond.methodLink RX9 449 yX9_layMembers ∈ wsL_law := ch57 _ (List.mem_of_getElem? (i := 12) rfl)
theorem wk57_13 : Cond.instanceMethod yX9_layMembers ∈ wsL_law := ch57 _ (List.mem_of_getElem? (i := 13) rfl)
theorem wk57_14 : Cond.selects RX9 yX9_layMembers yX9_layMembers ∈ wsL_law := ch57 _ (List.mem_of_getElem? (i := 14) rfl)
theorem wk57_15 : Cond.code yX9_layMembers cX9_layMembers 4 (some .int) ∈ wsL_law := ch57 _ (List.mem_of_getElem? (i := 15) rfl)
theorem wk57_16 : Cond.methodLink RX9 452 yX9_isLaid ∈ wsL_law := ch57 _ (List.mem_of_getElem? (i := 16) rfl)
theorem wk57_17 : Cond.instanceMethod yX9_isLaid ∈ wsL_law := ch57 _ (List.mem_of_getElem? (i := 17) rfl)
theorem wk57_18 : Cond.selects RX9 yX9_isLaid yX9_isLaid ∈ wsL_law := ch57 _ (List.mem_of_getElem? (i := 18) rfl)
theorem wk57_19 : Cond.code yX9_isLaid cX9_isLaid 8 (some .boolean) ∈ wsL_law := ch57 _ (List.mem_of_getElem? (i := 19) rfl)
theorem wk57_20 : Cond.methodLink RL 146 yX8_rounds ∈ wsL_law := ch57 _ (List.mem_of_getElem? (i := 20) rfl)
theorem wk57_21 : Cond.instanceMethod yX8_rounds ∈ wsL_law := ch57 _ (List.mem_of_getElem? (i := 21) rfl)
theorem wk57_22 : Cond.selects RX8 yX8_rounds yX8_rounds ∈ wsL_law := ch57 _ (List.mem_of_getElem? (i := 22) rfl)
theorem wk57_23 : Cond.code yX8_rounds cX8_rounds 3 (some .int) ∈ wsL_law := ch57 _ (List.mem_of_getElem? (i := 23) rfl)
theorem wk58_0 : Cond.methodLink RX8 310 yX6_allOpenOnce ∈ wsL_law := ch58 _ (List.mem_of_getElem? (i := 0) rfl)
theorem wk58_1 : Cond.instanceMethod yX6_allOpenOnce ∈ wsL_law := ch58 _ (List.mem_of_getElem? (i := 1) rfl)
theorem wk58_2 : Cond.selects RX6 yX6_allOpenOnce yX6_allOpenOnce ∈ wsL_law := ch58 _ (List.mem_of_getElem? (i := 2) rfl)
theorem wk58_3 : Cond.code yX6_allOpenOnce cX6_allOpenOnce 3 (some .boolean) ∈ wsL_law := ch58 _ (List.mem_of_getElem? (i := 3) rfl)
theorem wk58_4 : Cond.methodLink RL 149 yX9_rounds ∈ wsL_law := ch58 _ (List.mem_of_getElem? (i := 4) rfl)
theorem wk58_5 : Cond.instanceMethod yX9_rounds ∈ wsL_law := ch58 _ (List.mem_of_getElem? (i := 5) rfl)
theorem wk58_6 : Cond.selects RX9 yX9_rounds yX9_rounds ∈ wsL_law := ch58 _ (List.mem_of_getElem? (i := 6) rfl)
theorem wk58_7 : Cond.code yX9_rounds cX9_rounds 4 (some .int) ∈ wsL_law := ch58 _ (List.mem_of_getElem? (i := 7) rfl)
theorem wk58_8 : Cond.methodLink RX9 455 yX9_isRound ∈ wsL_law := ch58 _ (List.mem_of_getElem? (i := 8) rfl)
theorem wk58_9 : Cond.instanceMethod yX9_isRound ∈ wsL_law := ch58 _ (List.mem_of_getElem? (i := 9) rfl)
theorem wk58_10 : Cond.selects RX9 yX9_isRound yX9_isRound ∈ wsL_law := ch58 _ (List.mem_of_getElem? (i := 10) rfl)
theorem wk58_11 : Cond.code yX9_isRound cX9_isRound 3 (some .boolean) ∈ wsL_law := ch58 _ (List.mem_of_getElem? (i := 11) rfl)
theorem wk58_12 : Cond.methodLink RL 150 yX8_weddings ∈ wsL_law := ch58 _ (List.mem_of_getElem? (i := 12) rfl)
theorem wk58_13 : Cond.instanceMethod yX8_weddings ∈ wsL_law := ch58 _ (List.mem_of_getElem? (i := 13) rfl)
theorem wk58_14 : Cond.selects RX8 yX8_weddings yX8_weddings ∈ wsL_law := ch58 _ (List.mem_of_getElem? (i := 14) rfl)
theorem wk58_15 : Cond.code yX8_weddings cX8_weddings 2 (some .int) ∈ wsL_law := ch58 _ (List.mem_of_getElem? (i := 15) rfl)
theorem wk58_16 : Cond.fieldLink RX8 317 "ShutDays$Couples" "most" "I" ∈ wsL_law := ch58 _ (List.mem_of_getElem? (i := 16) rfl)
theorem wk58_17 : Cond.fieldLink RX8 320 "ShutDays$Couples" "best" "[I" ∈ wsL_law := ch58 _ (List.mem_of_getElem? (i := 17) rfl)
theorem wk58_18 : Cond.methodLink RX8 313 yX0_choose ∈ wsL_law := ch58 _ (List.mem_of_getElem? (i := 18) rfl)
theorem wk58_19 : Cond.instanceMethod yX0_choose ∈ wsL_law := ch58 _ (List.mem_of_getElem? (i := 19) rfl)
theorem wk58_20 : Cond.selects RX0 yX0_choose yX0_choose ∈ wsL_law := ch58 _ (List.mem_of_getElem? (i := 20) rfl)
theorem wk58_21 : Cond.code yX0_choose cX0_choose 3 none ∈ wsL_law := ch58 _ (List.mem_of_getElem? (i := 21) rfl)
theorem wk58_22 : Cond.fieldLink RX0 18 "ShutDays$Couples" "most" "I" ∈ wsL_law := ch58 _ (List.mem_of_getElem? (i := 22) rfl)
theorem wk58_23 : Cond.methodLink RX0 22 yX0_pairFrom ∈ wsL_law := ch58 _ (List.mem_of_getElem? (i := 23) rfl)
theorem wk59_0 : Cond.static yX0_pairFrom ∈ wsL_law := ch59 _ (List.mem_of_getElem? (i := 0) rfl)
theorem wk59_1 : Cond.code yX0_pairFrom cX0_pairFrom 6 none ∈ wsL_law := ch59 _ (List.mem_of_getElem? (i := 1) rfl)
theorem wk59_2 : Cond.fieldLink RX0 26 "ShutDays$Town" "houses" "I" ∈ wsL_law := ch59 _ (List.mem_of_getElem? (i := 2) rfl)
theorem wk59_3 : Cond.fieldLink RX0 39 "ShutDays$Town" "shut" "[I" ∈ wsL_law := ch59 _ (List.mem_of_getElem? (i := 3) rfl)
theorem wk59_4 : Cond.methodLink RX0 31 yX0_keepBetter ∈ wsL_law := ch59 _ (List.mem_of_getElem? (i := 4) rfl)
theorem wk59_5 : Cond.instanceMethod yX0_keepBetter ∈ wsL_law := ch59 _ (List.mem_of_getElem? (i := 5) rfl)
theorem wk59_6 : Cond.selects RX0 yX0_keepBetter yX0_keepBetter ∈ wsL_law := ch59 _ (List.mem_of_getElem? (i := 6) rfl)
theorem wk59_7 : Cond.code yX0_keepBetter cX0_keepBetter 2 none ∈ wsL_law := ch59 _ (List.mem_of_getElem? (i := 7) rfl)
theorem wk59_8 : Cond.methodLink RX0 48 arraycopyName ∈ wsL_law := ch59 _ (List.mem_of_getElem? (i := 8) rfl)
theorem wk59_9 : Cond.methodLink RX0 35 yX6_lives ∈ wsL_law := ch59 _ (List.mem_of_getElem? (i := 9) rfl)
theorem wk59_10 : Cond.methodLink RX0 42 yJ6_bitCount_0f7a4 ∈ wsL_law := ch59 _ (List.mem_of_getElem? (i := 10) rfl)
theorem wk59_11 : Cond.methodLink RL 153 yX9_weddings ∈ wsL_law := ch59 _ (List.mem_of_getElem? (i := 11) rfl)
theorem wk59_12 : Cond.instanceMethod yX9_weddings ∈ wsL_law := ch59 _ (List.mem_of_getElem? (i := 12) rfl)
theorem wk59_13 : Cond.selects RX9 yX9_weddings yX9_weddings ∈ wsL_law := ch59 _ (List.mem_of_getElem? (i := 13) rfl)
theorem wk59_14 : Cond.code yX9_weddings cX9_weddings 3 (some .int) ∈ wsL_law := ch59 _ (List.mem_of_getElem? (i := 14) rfl)
theorem wk59_15 : Cond.methodLink RX9 467 yX9_wed ∈ wsL_law := ch59 _ (List.mem_of_getElem? (i := 15) rfl)
theorem wk59_16 : Cond.instanceMethod yX9_wed ∈ wsL_law := ch59 _ (List.mem_of_getElem? (i := 16) rfl)
theorem wk59_17 : Cond.selects RX9 yX9_wed yX9_wed ∈ wsL_law := ch59 _ (List.mem_of_getElem? (i := 17) rfl)
theorem wk59_18 : Cond.code yX9_wed cX9_wed 5 (some .int) ∈ wsL_law := ch59 _ (List.mem_of_getElem? (i := 18) rfl)
theorem wk59_19 : Cond.methodLink RX9 461 yX9_sharedNow ∈ wsL_law := ch59 _ (List.mem_of_getElem? (i := 19) rfl)
theorem wk59_20 : Cond.instanceMethod yX9_sharedNow ∈ wsL_law := ch59 _ (List.mem_of_getElem? (i := 20) rfl)
theorem wk59_21 : Cond.selects RX9 yX9_sharedNow yX9_sharedNow ∈ wsL_law := ch59 _ (List.mem_of_getElem? (i := 21) rfl)
theorem wk59_22 : Cond.code yX9_sharedNow cX9_sharedNow 3 (some .int) ∈ wsL_law := ch59 _ (List.mem_of_getElem? (i := 22) rfl)
theorem wk59_23 : Cond.methodLink RX9 464 yX9_nextRow ∈ wsL_law := ch59 _ (List.mem_of_getElem? (i := 23) rfl)
theorem wk60_0 : Cond.instanceMethod yX9_nextRow ∈ wsL_law := ch60 _ (List.mem_of_getElem? (i := 0) rfl)
theorem wk60_1 : Cond.selects RX9 yX9_nextRow yX9_nextRow ∈ wsL_law := ch60 _ (List.mem_of_getElem? (i := 1) rfl)
theorem wk60_2 : Cond.code yX9_nextRow cX9_nextRow 4 (some .boolean) ∈ wsL_law := ch60 _ (List.mem_of_getElem? (i := 2) rfl)
theorem wk60_3 : Cond.methodLink RX9 458 yX9_nextMate ∈ wsL_law := ch60 _ (List.mem_of_getElem? (i := 3) rfl)
theorem wk60_4 : Cond.instanceMethod yX9_nextMate ∈ wsL_law := ch60 _ (List.mem_of_getElem? (i := 4) rfl)
theorem wk60_5 : Cond.selects RX9 yX9_nextMate yX9_nextMate ∈ wsL_law := ch60 _ (List.mem_of_getElem? (i := 5) rfl)
theorem wk60_6 : Cond.code yX9_nextMate cX9_nextMate 4 (some .int) ∈ wsL_law := ch60 _ (List.mem_of_getElem? (i := 6) rfl)
theorem wk60_7 : Cond.methodLink RL 154 yX8_twins ∈ wsL_law := ch60 _ (List.mem_of_getElem? (i := 7) rfl)
theorem wk60_8 : Cond.instanceMethod yX8_twins ∈ wsL_law := ch60 _ (List.mem_of_getElem? (i := 8) rfl)
theorem wk60_9 : Cond.selects RX8 yX8_twins yX8_twins ∈ wsL_law := ch60 _ (List.mem_of_getElem? (i := 9) rfl)
theorem wk60_10 : Cond.code yX8_twins cX8_twins 5 (some .int) ∈ wsL_law := ch60 _ (List.mem_of_getElem? (i := 10) rfl)
theorem wk60_11 : Cond.methodLink RL 157 yX9_twins ∈ wsL_law := ch60 _ (List.mem_of_getElem? (i := 11) rfl)
theorem wk60_12 : Cond.instanceMethod yX9_twins ∈ wsL_law := ch60 _ (List.mem_of_getElem? (i := 12) rfl)
theorem wk60_13 : Cond.selects RX9 yX9_twins yX9_twins ∈ wsL_law := ch60 _ (List.mem_of_getElem? (i := 13) rfl)
theorem wk60_14 : Cond.code yX9_twins cX9_twins 4 (some .int) ∈ wsL_law := ch60 _ (List.mem_of_getElem? (i := 14) rfl)
theorem wk60_15 : Cond.methodLink RL 158 yX8_gossip ∈ wsL_law := ch60 _ (List.mem_of_getElem? (i := 15) rfl)
theorem wk60_16 : Cond.instanceMethod yX8_gossip ∈ wsL_law := ch60 _ (List.mem_of_getElem? (i := 16) rfl)
theorem wk60_17 : Cond.selects RX8 yX8_gossip yX8_gossip ∈ wsL_law := ch60 _ (List.mem_of_getElem? (i := 17) rfl)
theorem wk60_18 : Cond.code yX8_gossip cX8_gossip 3 (some .int) ∈ wsL_law := ch60 _ (List.mem_of_getElem? (i := 18) rfl)
theorem wk60_19 : Cond.fieldLink RX8 323 "ShutDays$World" "gossipCount" "I" ∈ wsL_law := ch60 _ (List.mem_of_getElem? (i := 19) rfl)
theorem wk60_20 : Cond.fieldLink RX8 326 "ShutDays$World" "gossipFrom" "[I" ∈ wsL_law := ch60 _ (List.mem_of_getElem? (i := 20) rfl)
theorem wk60_21 : Cond.fieldLink RX8 329 "ShutDays$World" "gossipTo" "[I" ∈ wsL_law := ch60 _ (List.mem_of_getElem? (i := 21) rfl)
theorem wk60_22 : Cond.methodLink RL 161 yX9_gossip ∈ wsL_law := ch60 _ (List.mem_of_getElem? (i := 22) rfl)
theorem wk60_23 : Cond.instanceMethod yX9_gossip ∈ wsL_law := ch60 _ (List.mem_of_getElem? (i := 23) rfl)
theorem wk61_0 : Cond.selects RX9 yX9_gossip yX9_gossip ∈ wsL_law := ch61 _ (List.mem_of_getElem? (i := 0) rfl)
theorem wk61_1 : Cond.code yX9_gossip cX9_gossip 3 (some .int) ∈ wsL_law := ch61 _ (List.mem_of_getElem? (i := 1) rfl)
theorem wk61_2 : Cond.methodLink RL 162 yX8_knows ∈ wsL_law := ch61 _ (List.mem_of_getElem? (i := 2) rfl)
theorem wk61_3 : Cond.instanceMethod yX8_knows ∈ wsL_law := ch61 _ (List.mem_of_getElem? (i := 3) rfl)
theorem wk61_4 : Cond.selects RX8 yX8_knows yX8_knows ∈ wsL_law := ch61 _ (List.mem_of_getElem? (i := 4) rfl)
theorem wk61_5 : Cond.code yX8_knows cX8_knows 5 (some .int) ∈ wsL_law := ch61 _ (List.mem_of_getElem? (i := 5) rfl)
theorem wk61_6 : Cond.methodLink RX8 332 yX7_knowingNext ∈ wsL_law := ch61 _ (List.mem_of_getElem? (i := 6) rfl)
theorem wk61_7 : Cond.instanceMethod yX7_knowingNext ∈ wsL_law := ch61 _ (List.mem_of_getElem? (i := 7) rfl)
theorem wk61_8 : Cond.selects RX7 yX7_knowingNext yX7_knowingNext ∈ wsL_law := ch61 _ (List.mem_of_getElem? (i := 8) rfl)
theorem wk61_9 : Cond.code yX7_knowingNext cX7_knowingNext 4 (some .int) ∈ wsL_law := ch61 _ (List.mem_of_getElem? (i := 9) rfl)
theorem wk61_10 : Cond.fieldLink RX7 64 "ShutDays$World" "gossipCount" "I" ∈ wsL_law := ch61 _ (List.mem_of_getElem? (i := 10) rfl)
theorem wk61_11 : Cond.methodLink RL 165 yX9_knows ∈ wsL_law := ch61 _ (List.mem_of_getElem? (i := 11) rfl)
theorem wk61_12 : Cond.instanceMethod yX9_knows ∈ wsL_law := ch61 _ (List.mem_of_getElem? (i := 12) rfl)
theorem wk61_13 : Cond.selects RX9 yX9_knows yX9_knows ∈ wsL_law := ch61 _ (List.mem_of_getElem? (i := 13) rfl)
theorem wk61_14 : Cond.code yX9_knows cX9_knows 5 (some .int) ∈ wsL_law := ch61 _ (List.mem_of_getElem? (i := 14) rfl)
theorem wk61_15 : Cond.methodLink RX9 470 yX9_spread ∈ wsL_law := ch61 _ (List.mem_of_getElem? (i := 15) rfl)
theorem wk61_16 : Cond.instanceMethod yX9_spread ∈ wsL_law := ch61 _ (List.mem_of_getElem? (i := 16) rfl)
theorem wk61_17 : Cond.selects RX9 yX9_spread yX9_spread ∈ wsL_law := ch61 _ (List.mem_of_getElem? (i := 17) rfl)
theorem wk61_18 : Cond.code yX9_spread cX9_spread 4 (some .int) ∈ wsL_law := ch61 _ (List.mem_of_getElem? (i := 18) rfl)
theorem wk61_19 : Cond.methodLink RL 166 yX8_never ∈ wsL_law := ch61 _ (List.mem_of_getElem? (i := 19) rfl)
theorem wk61_20 : Cond.instanceMethod yX8_never ∈ wsL_law := ch61 _ (List.mem_of_getElem? (i := 20) rfl)
theorem wk61_21 : Cond.selects RX8 yX8_never yX8_never ∈ wsL_law := ch61 _ (List.mem_of_getElem? (i := 21) rfl)
theorem wk61_22 : Cond.code yX8_never cX8_never 4 (some .int) ∈ wsL_law := ch61 _ (List.mem_of_getElem? (i := 22) rfl)
theorem wk61_23 : Cond.methodLink RL 169 yX9_never ∈ wsL_law := ch61 _ (List.mem_of_getElem? (i := 23) rfl)
theorem wk62_0 : Cond.instanceMethod yX9_never ∈ wsL_law := ch62 _ (List.mem_of_getElem? (i := 0) rfl)
theorem wk62_1 : Cond.selects RX9 yX9_never yX9_never ∈ wsL_law := ch62 _ (List.mem_of_getElem? (i := 1) rfl)
theorem wk62_2 : Cond.code yX9_never cX9_never 4 (some .int) ∈ wsL_law := ch62 _ (List.mem_of_getElem? (i := 2) rfl)
theorem wk62_3 : Cond.methodLink RL 170 yX8_richest ∈ wsL_law := ch62 _ (List.mem_of_getElem? (i := 3) rfl)
theorem wk62_4 : Cond.instanceMethod yX8_richest ∈ wsL_law := ch62 _ (List.mem_of_getElem? (i := 4) rfl)
theorem wk62_5 : Cond.selects RX8 yX8_richest yX8_richest ∈ wsL_law := ch62 _ (List.mem_of_getElem? (i := 5) rfl)
theorem wk62_6 : Cond.code yX8_richest cX8_richest 6 (some .int) ∈ wsL_law := ch62 _ (List.mem_of_getElem? (i := 6) rfl)
theorem wk62_7 : Cond.methodLink RX8 335 yX8_earnedOn ∈ wsL_law := ch62 _ (List.mem_of_getElem? (i := 7) rfl)
theorem wk62_8 : Cond.instanceMethod yX8_earnedOn ∈ wsL_law := ch62 _ (List.mem_of_getElem? (i := 8) rfl)
theorem wk62_9 : Cond.selects RX8 yX8_earnedOn yX8_earnedOn ∈ wsL_law := ch62 _ (List.mem_of_getElem? (i := 9) rfl)
theorem wk62_10 : Cond.code yX8_earnedOn cX8_earnedOn 6 (some .int) ∈ wsL_law := ch62 _ (List.mem_of_getElem? (i := 10) rfl)
theorem wk62_11 : Cond.methodLink RX8 408 yX3_isOpen ∈ wsL_law := ch62 _ (List.mem_of_getElem? (i := 11) rfl)
theorem wk62_12 : Cond.methodLink RL 173 yX9_richest ∈ wsL_law := ch62 _ (List.mem_of_getElem? (i := 12) rfl)
theorem wk62_13 : Cond.instanceMethod yX9_richest ∈ wsL_law := ch62 _ (List.mem_of_getElem? (i := 13) rfl)
theorem wk62_14 : Cond.selects RX9 yX9_richest yX9_richest ∈ wsL_law := ch62 _ (List.mem_of_getElem? (i := 14) rfl)
theorem wk62_15 : Cond.code yX9_richest cX9_richest 4 (some .int) ∈ wsL_law := ch62 _ (List.mem_of_getElem? (i := 15) rfl)
theorem wk62_16 : Cond.methodLink RX9 473 yX9_earnedOn ∈ wsL_law := ch62 _ (List.mem_of_getElem? (i := 16) rfl)
theorem wk62_17 : Cond.instanceMethod yX9_earnedOn ∈ wsL_law := ch62 _ (List.mem_of_getElem? (i := 17) rfl)
theorem wk62_18 : Cond.selects RX9 yX9_earnedOn yX9_earnedOn ∈ wsL_law := ch62 _ (List.mem_of_getElem? (i := 18) rfl)
theorem wk62_19 : Cond.code yX9_earnedOn cX9_earnedOn 5 (some .int) ∈ wsL_law := ch62 _ (List.mem_of_getElem? (i := 19) rfl)
theorem wk62_20 : Cond.methodLink RL 174 yX8_whose ∈ wsL_law := ch62 _ (List.mem_of_getElem? (i := 20) rfl)
theorem wk62_21 : Cond.instanceMethod yX8_whose ∈ wsL_law := ch62 _ (List.mem_of_getElem? (i := 21) rfl)
theorem wk62_22 : Cond.selects RX8 yX8_whose yX8_whose ∈ wsL_law := ch62 _ (List.mem_of_getElem? (i := 22) rfl)
theorem wk62_23 : Cond.code yX8_whose cX8_whose 6 (some .int) ∈ wsL_law := ch62 _ (List.mem_of_getElem? (i := 23) rfl)
theorem wk63_0 : Cond.methodLink RX8 338 yX6_wealth ∈ wsL_law := ch63 _ (List.mem_of_getElem? (i := 0) rfl)
theorem wk63_1 : Cond.instanceMethod yX6_wealth ∈ wsL_law := ch63 _ (List.mem_of_getElem? (i := 1) rfl)
theorem wk63_2 : Cond.selects RX6 yX6_wealth yX6_wealth ∈ wsL_law := ch63 _ (List.mem_of_getElem? (i := 2) rfl)
theorem wk63_3 : Cond.code yX6_wealth cX6_wealth 3 (some .int) ∈ wsL_law := ch63 _ (List.mem_of_getElem? (i := 3) rfl)
theorem wk63_4 : Cond.methodLink RL 177 yX9_whose ∈ wsL_law := ch63 _ (List.mem_of_getElem? (i := 4) rfl)
theorem wk63_5 : Cond.instanceMethod yX9_whose ∈ wsL_law := ch63 _ (List.mem_of_getElem? (i := 5) rfl)
theorem wk63_6 : Cond.selects RX9 yX9_whose yX9_whose ∈ wsL_law := ch63 _ (List.mem_of_getElem? (i := 6) rfl)
theorem wk63_7 : Cond.code yX9_whose cX9_whose 8 (some .int) ∈ wsL_law := ch63 _ (List.mem_of_getElem? (i := 7) rfl)
theorem wk63_8 : Cond.methodLink RL 178 yX8_knocks ∈ wsL_law := ch63 _ (List.mem_of_getElem? (i := 8) rfl)
theorem wk63_9 : Cond.instanceMethod yX8_knocks ∈ wsL_law := ch63 _ (List.mem_of_getElem? (i := 9) rfl)
theorem wk63_10 : Cond.selects RX8 yX8_knocks yX8_knocks ∈ wsL_law := ch63 _ (List.mem_of_getElem? (i := 10) rfl)
theorem wk63_11 : Cond.code yX8_knocks cX8_knocks 3 (some .int) ∈ wsL_law := ch63 _ (List.mem_of_getElem? (i := 11) rfl)
theorem wk63_12 : Cond.methodLink RX8 341 yX6_howManyKnocks ∈ wsL_law := ch63 _ (List.mem_of_getElem? (i := 12) rfl)
theorem wk63_13 : Cond.instanceMethod yX6_howManyKnocks ∈ wsL_law := ch63 _ (List.mem_of_getElem? (i := 13) rfl)
theorem wk63_14 : Cond.selects RX6 yX6_howManyKnocks yX6_howManyKnocks ∈ wsL_law := ch63 _ (List.mem_of_getElem? (i := 14) rfl)
theorem wk63_15 : Cond.code yX6_howManyKnocks cX6_howManyKnocks 5 (some .int) ∈ wsL_law := ch63 _ (List.mem_of_getElem? (i := 15) rfl)
theorem wk63_16 : Cond.methodLink RX6 83 yX6_houseOfKnock ∈ wsL_law := ch63 _ (List.mem_of_getElem? (i := 16) rfl)
theorem wk63_17 : Cond.methodLink RX6 86 yX6_wasShut ∈ wsL_law := ch63 _ (List.mem_of_getElem? (i := 17) rfl)
theorem wk63_18 : Cond.methodLink RL 182 yX9_knocks ∈ wsL_law := ch63 _ (List.mem_of_getElem? (i := 18) rfl)
theorem wk63_19 : Cond.instanceMethod yX9_knocks ∈ wsL_law := ch63 _ (List.mem_of_getElem? (i := 19) rfl)
theorem wk63_20 : Cond.selects RX9 yX9_knocks yX9_knocks ∈ wsL_law := ch63 _ (List.mem_of_getElem? (i := 20) rfl)
theorem wk63_21 : Cond.code yX9_knocks cX9_knocks 3 (some .int) ∈ wsL_law := ch63 _ (List.mem_of_getElem? (i := 21) rfl)
theorem wk63_22 : Cond.methodLink RX9 393 yX9_knocksAt ∈ wsL_law := ch63 _ (List.mem_of_getElem? (i := 22) rfl)
theorem wk63_23 : Cond.instanceMethod yX9_knocksAt ∈ wsL_law := ch63 _ (List.mem_of_getElem? (i := 23) rfl)
theorem wk64_0 : Cond.selects RX9 yX9_knocksAt yX9_knocksAt ∈ wsL_law := ch64 _ (List.mem_of_getElem? (i := 0) rfl)
theorem wk64_1 : Cond.code yX9_knocksAt cX9_knocksAt 5 (some .int) ∈ wsL_law := ch64 _ (List.mem_of_getElem? (i := 1) rfl)
theorem wk64_2 : Cond.methodLink RL 183 yX8_offended ∈ wsL_law := ch64 _ (List.mem_of_getElem? (i := 2) rfl)
theorem wk64_3 : Cond.instanceMethod yX8_offended ∈ wsL_law := ch64 _ (List.mem_of_getElem? (i := 3) rfl)
theorem wk64_4 : Cond.selects RX8 yX8_offended yX8_offended ∈ wsL_law := ch64 _ (List.mem_of_getElem? (i := 4) rfl)
theorem wk64_5 : Cond.code yX8_offended cX8_offended 5 (some .int) ∈ wsL_law := ch64 _ (List.mem_of_getElem? (i := 5) rfl)
theorem wk64_6 : Cond.methodLink RL 186 yX9_offended ∈ wsL_law := ch64 _ (List.mem_of_getElem? (i := 6) rfl)
theorem wk64_7 : Cond.instanceMethod yX9_offended ∈ wsL_law := ch64 _ (List.mem_of_getElem? (i := 7) rfl)
theorem wk64_8 : Cond.selects RX9 yX9_offended yX9_offended ∈ wsL_law := ch64 _ (List.mem_of_getElem? (i := 8) rfl)
theorem wk64_9 : Cond.code yX9_offended cX9_offended 4 (some .int) ∈ wsL_law := ch64 _ (List.mem_of_getElem? (i := 9) rfl)
theorem wk64_10 : Cond.methodLink RL 187 yX8_leap ∈ wsL_law := ch64 _ (List.mem_of_getElem? (i := 10) rfl)
theorem wk64_11 : Cond.instanceMethod yX8_leap ∈ wsL_law := ch64 _ (List.mem_of_getElem? (i := 11) rfl)
theorem wk64_12 : Cond.selects RX8 yX8_leap yX8_leap ∈ wsL_law := ch64 _ (List.mem_of_getElem? (i := 12) rfl)
theorem wk64_13 : Cond.code yX8_leap cX8_leap 5 (some .int) ∈ wsL_law := ch64 _ (List.mem_of_getElem? (i := 13) rfl)
theorem wk64_14 : Cond.methodLink RL 190 yX9_leap ∈ wsL_law := ch64 _ (List.mem_of_getElem? (i := 14) rfl)
theorem wk64_15 : Cond.instanceMethod yX9_leap ∈ wsL_law := ch64 _ (List.mem_of_getElem? (i := 15) rfl)
theorem wk64_16 : Cond.selects RX9 yX9_leap yX9_leap ∈ wsL_law := ch64 _ (List.mem_of_getElem? (i := 16) rfl)
theorem wk64_17 : Cond.code yX9_leap cX9_leap 4 (some .int) ∈ wsL_law := ch64 _ (List.mem_of_getElem? (i := 17) rfl)
theorem wk64_18 : Cond.methodLink RX9 476 yX9_later ∈ wsL_law := ch64 _ (List.mem_of_getElem? (i := 18) rfl)
theorem wk64_19 : Cond.static yX9_later ∈ wsL_law := ch64 _ (List.mem_of_getElem? (i := 19) rfl)
theorem wk64_20 : Cond.code yX9_later cX9_later 4 (some .int) ∈ wsL_law := ch64 _ (List.mem_of_getElem? (i := 20) rfl)
theorem wk64_21 : Cond.methodLink RL 191 yX8_image ∈ wsL_law := ch64 _ (List.mem_of_getElem? (i := 21) rfl)
theorem wk64_22 : Cond.instanceMethod yX8_image ∈ wsL_law := ch64 _ (List.mem_of_getElem? (i := 22) rfl)
theorem wk64_23 : Cond.selects RX8 yX8_image yX8_image ∈ wsL_law := ch64 _ (List.mem_of_getElem? (i := 23) rfl)
theorem wk65_0 : Cond.code yX8_image cX8_image 1 (some .int) ∈ wsL_law := ch65 _ (List.mem_of_getElem? (i := 0) rfl)
theorem wk65_1 : Cond.methodLink RX8 345 yX7_copyFrom ∈ wsL_law := ch65 _ (List.mem_of_getElem? (i := 1) rfl)
theorem wk65_2 : Cond.instanceMethod yX7_copyFrom ∈ wsL_law := ch65 _ (List.mem_of_getElem? (i := 2) rfl)
theorem wk65_3 : Cond.selects RX7 yX7_copyFrom yX7_copyFrom ∈ wsL_law := ch65 _ (List.mem_of_getElem? (i := 3) rfl)
theorem wk65_4 : Cond.code yX7_copyFrom cX7_copyFrom 3 none ∈ wsL_law := ch65 _ (List.mem_of_getElem? (i := 4) rfl)
theorem wk65_5 : Cond.fieldLink RX7 52 "ShutDays$World" "texts" "I" ∈ wsL_law := ch65 _ (List.mem_of_getElem? (i := 5) rfl)
theorem wk65_6 : Cond.methodLink RX7 55 arraycopyName ∈ wsL_law := ch65 _ (List.mem_of_getElem? (i := 6) rfl)
theorem wk65_7 : Cond.fieldLink RX7 61 "ShutDays$World" "seenCount" "I" ∈ wsL_law := ch65 _ (List.mem_of_getElem? (i := 7) rfl)
theorem wk65_8 : Cond.methodLink RL 194 yX9_image ∈ wsL_law := ch65 _ (List.mem_of_getElem? (i := 8) rfl)
theorem wk65_9 : Cond.instanceMethod yX9_image ∈ wsL_law := ch65 _ (List.mem_of_getElem? (i := 9) rfl)
theorem wk65_10 : Cond.selects RX9 yX9_image yX9_image ∈ wsL_law := ch65 _ (List.mem_of_getElem? (i := 10) rfl)
theorem wk65_11 : Cond.code yX9_image cX9_image 1 (some .int) ∈ wsL_law := ch65 _ (List.mem_of_getElem? (i := 11) rfl)
theorem wk65_12 : Cond.methodLink RL 195 yX8_back ∈ wsL_law := ch65 _ (List.mem_of_getElem? (i := 12) rfl)
theorem wk65_13 : Cond.instanceMethod yX8_back ∈ wsL_law := ch65 _ (List.mem_of_getElem? (i := 13) rfl)
theorem wk65_14 : Cond.selects RX8 yX8_back yX8_back ∈ wsL_law := ch65 _ (List.mem_of_getElem? (i := 14) rfl)
theorem wk65_15 : Cond.code yX8_back cX8_back 1 (some .int) ∈ wsL_law := ch65 _ (List.mem_of_getElem? (i := 15) rfl)
theorem wk65_16 : Cond.methodLink RL 198 yX9_back ∈ wsL_law := ch65 _ (List.mem_of_getElem? (i := 16) rfl)
theorem wk65_17 : Cond.instanceMethod yX9_back ∈ wsL_law := ch65 _ (List.mem_of_getElem? (i := 17) rfl)
theorem wk65_18 : Cond.selects RX9 yX9_back yX9_back ∈ wsL_law := ch65 _ (List.mem_of_getElem? (i := 18) rfl)
theorem wk65_19 : Cond.code yX9_back cX9_back 1 (some .int) ∈ wsL_law := ch65 _ (List.mem_of_getElem? (i := 19) rfl)
theorem wk65_20 : Cond.methodLink RL 199 yX8_about ∈ wsL_law := ch65 _ (List.mem_of_getElem? (i := 20) rfl)
theorem wk65_21 : Cond.instanceMethod yX8_about ∈ wsL_law := ch65 _ (List.mem_of_getElem? (i := 21) rfl)
theorem wk65_22 : Cond.selects RX8 yX8_about yX8_about ∈ wsL_law := ch65 _ (List.mem_of_getElem? (i := 22) rfl)
theorem wk65_23 : Cond.code yX8_about cX8_about 2 (some .int) ∈ wsL_law := ch65 _ (List.mem_of_getElem? (i := 23) rfl)
theorem wk66_0 : Cond.fieldLink RX8 348 "ShutDays$World" "stepCount" "I" ∈ wsL_law := ch66 _ (List.mem_of_getElem? (i := 0) rfl)
theorem wk66_1 : Cond.methodLink RL 202 yX9_about ∈ wsL_law := ch66 _ (List.mem_of_getElem? (i := 1) rfl)
theorem wk66_2 : Cond.instanceMethod yX9_about ∈ wsL_law := ch66 _ (List.mem_of_getElem? (i := 2) rfl)
theorem wk66_3 : Cond.selects RX9 yX9_about yX9_about ∈ wsL_law := ch66 _ (List.mem_of_getElem? (i := 3) rfl)
theorem wk66_4 : Cond.code yX9_about cX9_about 2 (some .int) ∈ wsL_law := ch66 _ (List.mem_of_getElem? (i := 4) rfl)
theorem mfX0_9 : mF RX0 9 0 1 := ⟨by decide, by decide, wk5_4⟩
theorem mfX0_15 : mF RX0 15 0 2 := ⟨by decide, by decide, wk5_5⟩
theorem mfX0_18 : mF RX0 18 0 0 := ⟨by decide, by decide, wk58_22⟩
theorem mfX0_26 : mF RX0 26 6 5 := ⟨by decide, by decide, wk59_2⟩
theorem mfX0_39 : mF RX0 39 6 0 := ⟨by decide, by decide, wk59_3⟩
theorem mfX1_9 : mF RX1 9 1 0 := ⟨by decide, by decide, wk5_0⟩
theorem mfX1_21 : mF RX1 21 1 1 := ⟨by decide, by decide, wk56_21⟩
theorem mfX1_29 : mF RX1 29 6 7 := ⟨by decide, by decide, wk57_2⟩
theorem mfX2_9 : mF RX2 9 2 1 := ⟨by decide, by decide, wk51_19⟩
theorem mfX2_15 : mF RX2 15 2 2 := ⟨by decide, by decide, wk51_20⟩
theorem mfX2_18 : mF RX2 18 7 0 := ⟨by decide, by decide, wk51_21⟩
theorem mfX2_24 : mF RX2 24 6 4 := ⟨by decide, by decide, wk51_22⟩
theorem mfX2_44 : mF RX2 44 7 9 := ⟨by decide, by decide, wk51_23⟩
theorem mfX2_47 : mF RX2 47 7 6 := ⟨by decide, by decide, wk52_0⟩
theorem mfX2_51 : mF RX2 51 7 7 := ⟨by decide, by decide, wk52_1⟩
theorem mfX2_54 : mF RX2 54 7 8 := ⟨by decide, by decide, wk52_2⟩
theorem mfX2_62 : mF RX2 62 2 3 := ⟨by decide, by decide, wk52_3⟩
theorem mfX2_65 : mF RX2 65 2 4 := ⟨by decide, by decide, wk52_4⟩
theorem mfX2_72 : mF RX2 72 2 0 := ⟨by decide, by decide, wk52_5⟩
theorem mfX3_9 : mF RX3 9 3 0 := ⟨by decide, by decide, wk3_19⟩
theorem mfX3_15 : mF RX3 15 3 1 := ⟨by decide, by decide, wk3_20⟩
theorem mfX3_24 : mF RX3 24 3 2 := ⟨by decide, by decide, wk29_16⟩
theorem mfX3_61 : mF RX3 61 6 2 := ⟨by decide, by decide, wk30_20⟩
theorem mfX3_64 : mF RX3 64 6 7 := ⟨by decide, by decide, wk40_0⟩
theorem mfX3_71 : mF RX3 71 6 5 := ⟨by decide, by decide, wk40_1⟩
theorem mfX3_74 : mF RX3 74 6 1 := ⟨by decide, by decide, wk31_3⟩
theorem mfX3_87 : mF RX3 87 6 0 := ⟨by decide, by decide, wk31_4⟩
theorem mfX3_90 : mF RX3 90 5 3 := ⟨by decide, by decide, wk31_5⟩
theorem mfX3_93 : mF RX3 93 5 2 := ⟨by decide, by decide, wk31_7⟩
theorem mfX3_96 : mF RX3 96 5 0 := ⟨by decide, by decide, wk31_8⟩
theorem mfX4_12 : mF RX4 12 4 0 := ⟨by decide, by decide, wk3_4⟩
theorem mfX4_18 : mF RX4 18 4 2 := ⟨by decide, by decide, wk3_5⟩
theorem mfX4_22 : mF RX4 22 4 3 := ⟨by decide, by decide, wk3_6⟩
theorem mfX4_26 : mF RX4 26 4 4 := ⟨by decide, by decide, wk3_7⟩
theorem mfX4_29 : mF RX4 29 4 5 := ⟨by decide, by decide, wk3_8⟩
theorem mfX4_32 : mF RX4 32 4 1 := ⟨by decide, by decide, wk9_17⟩
theorem mfX4_35 : mF RX4 35 4 7 := ⟨by decide, by decide, wk9_18⟩
theorem mfX4_75 : mF RX4 75 4 6 := ⟨by decide, by decide, wk10_9⟩
theorem mfX4_125 : mF RX4 125 5 5 := ⟨by decide, by decide, wk16_1⟩
theorem mfX4_135 : mF RX4 135 4 8 := ⟨by decide, by decide, wk16_21⟩
theorem mfX4_139 : mF RX4 139 5 2 := ⟨by decide, by decide, wk16_22⟩
theorem mfX4_142 : mF RX4 142 5 1 := ⟨by decide, by decide, wk16_23⟩
theorem mfX4_151 : mF RX4 151 5 3 := ⟨by decide, by decide, wk17_0⟩
theorem mfX5_9 : mF RX5 9 5 0 := ⟨by decide, by decide, wk3_12⟩
theorem mfX5_15 : mF RX5 15 5 2 := ⟨by decide, by decide, wk3_13⟩
theorem mfX5_18 : mF RX5 18 5 3 := ⟨by decide, by decide, wk3_14⟩
theorem mfX5_21 : mF RX5 21 5 4 := ⟨by decide, by decide, wk3_15⟩
theorem mfX5_24 : mF RX5 24 5 1 := ⟨by decide, by decide, wk10_3⟩
theorem mfX5_28 : mF RX5 28 5 5 := ⟨by decide, by decide, wk10_4⟩
theorem mfX6_9 : mF RX6 9 6 0 := ⟨by decide, by decide, wk4_13⟩
theorem mfX6_15 : mF RX6 15 6 1 := ⟨by decide, by decide, wk4_14⟩
theorem mfX6_18 : mF RX6 18 6 2 := ⟨by decide, by decide, wk4_15⟩
theorem mfX6_21 : mF RX6 21 6 3 := ⟨by decide, by decide, wk4_16⟩
theorem mfX6_24 : mF RX6 24 6 8 := ⟨by decide, by decide, wk4_17⟩
theorem mfX6_32 : mF RX6 32 6 5 := ⟨by decide, by decide, wk7_7⟩
theorem mfX6_47 : mF RX6 47 6 4 := ⟨by decide, by decide, wk28_12⟩
theorem mfX6_50 : mF RX6 50 6 6 := ⟨by decide, by decide, wk27_19⟩
theorem mfX6_53 : mF RX6 53 6 7 := ⟨by decide, by decide, wk28_13⟩
theorem mfX7_12 : mF RX7 12 7 0 := ⟨by decide, by decide, wk4_2⟩
theorem mfX7_18 : mF RX7 18 7 1 := ⟨by decide, by decide, wk4_3⟩
theorem mfX7_22 : mF RX7 22 7 5 := ⟨by decide, by decide, wk4_4⟩
theorem mfX7_26 : mF RX7 26 7 6 := ⟨by decide, by decide, wk4_5⟩
theorem mfX7_30 : mF RX7 30 7 7 := ⟨by decide, by decide, wk4_6⟩
theorem mfX7_33 : mF RX7 33 7 8 := ⟨by decide, by decide, wk4_7⟩
theorem mfX7_36 : mF RX7 36 7 10 := ⟨by decide, by decide, wk4_8⟩
theorem mfX7_39 : mF RX7 39 7 11 := ⟨by decide, by decide, wk4_9⟩
theorem mfX7_46 : mF RX7 46 7 2 := ⟨by decide, by decide, wk28_0⟩
theorem mfX7_49 : mF RX7 49 7 3 := ⟨by decide, by decide, wk28_1⟩
theorem mfX7_52 : mF RX7 52 7 4 := ⟨by decide, by decide, wk65_5⟩
theorem mfX7_61 : mF RX7 61 7 9 := ⟨by decide, by decide, wk65_7⟩
theorem mfX7_64 : mF RX7 64 7 12 := ⟨by decide, by decide, wk61_10⟩
theorem mfX8_9 : mF RX8 9 8 0 := ⟨by decide, by decide, wk1_13⟩
theorem mfX8_16 : mF RX8 16 8 3 := ⟨by decide, by decide, wk1_17⟩
theorem mfX8_22 : mF RX8 22 8 4 := ⟨by decide, by decide, wk1_19⟩
theorem mfX8_27 : mF RX8 27 8 5 := ⟨by decide, by decide, wk1_22⟩
theorem mfX8_34 : mF RX8 34 8 6 := ⟨by decide, by decide, wk2_2⟩
theorem mfX8_41 : mF RX8 41 8 7 := ⟨by decide, by decide, wk2_6⟩
theorem mfX8_45 : mF RX8 45 8 8 := ⟨by decide, by decide, wk2_7⟩
theorem mfX8_51 : mF RX8 51 8 9 := ⟨by decide, by decide, wk2_11⟩
theorem mfX8_58 : mF RX8 58 8 10 := ⟨by decide, by decide, wk2_15⟩
theorem mfX8_65 : mF RX8 65 8 11 := ⟨by decide, by decide, wk2_19⟩
theorem mfX8_72 : mF RX8 72 8 12 := ⟨by decide, by decide, wk2_23⟩
theorem mfX8_88 : mF RX8 88 7 0 := ⟨by decide, by decide, wk6_11⟩
theorem mfX8_99 : mF RX8 99 8 1 := ⟨by decide, by decide, wk8_7⟩
theorem mfX8_107 : mF RX8 107 7 4 := ⟨by decide, by decide, wk9_9⟩
theorem mfX8_113 : mF RX8 113 8 2 := ⟨by decide, by decide, wk9_10⟩
theorem mfX8_117 : mF RX8 117 4 1 := ⟨by decide, by decide, wk9_11⟩
theorem mfX8_120 : mF RX8 120 4 0 := ⟨by decide, by decide, wk9_12⟩
theorem mfX8_127 : mF RX8 127 4 2 := ⟨by decide, by decide, wk26_9⟩
theorem mfX8_133 : mF RX8 133 7 5 := ⟨by decide, by decide, wk26_18⟩
theorem mfX8_166 : mF RX8 166 6 7 := ⟨by decide, by decide, wk28_18⟩
theorem mfX8_176 : mF RX8 176 5 5 := ⟨by decide, by decide, wk41_17⟩
theorem mfX8_183 : mF RX8 183 6 5 := ⟨by decide, by decide, wk43_8⟩
theorem mfX8_186 : mF RX8 186 6 8 := ⟨by decide, by decide, wk43_9⟩
theorem mfX8_198 : mF RX8 198 6 0 := ⟨by decide, by decide, wk44_16⟩
theorem mfX8_201 : mF RX8 201 6 1 := ⟨by decide, by decide, wk44_17⟩
theorem mfX8_204 : mF RX8 204 6 2 := ⟨by decide, by decide, wk44_18⟩
theorem mfX8_224 : mF RX8 224 6 4 := ⟨by decide, by decide, wk45_22⟩
theorem mfX8_254 : mF RX8 254 7 9 := ⟨by decide, by decide, wk50_22⟩
theorem mfX8_260 : mF RX8 260 7 6 := ⟨by decide, by decide, wk50_23⟩
theorem mfX8_263 : mF RX8 263 7 7 := ⟨by decide, by decide, wk51_0⟩
theorem mfX8_266 : mF RX8 266 7 8 := ⟨by decide, by decide, wk51_1⟩
theorem mfX8_279 : mF RX8 279 2 0 := ⟨by decide, by decide, wk51_10⟩
theorem mfX8_304 : mF RX8 304 1 1 := ⟨by decide, by decide, wk56_14⟩
theorem mfX8_307 : mF RX8 307 1 0 := ⟨by decide, by decide, wk56_15⟩
theorem mfX8_317 : mF RX8 317 0 0 := ⟨by decide, by decide, wk58_16⟩
theorem mfX8_320 : mF RX8 320 0 1 := ⟨by decide, by decide, wk58_17⟩
theorem mfX8_323 : mF RX8 323 7 12 := ⟨by decide, by decide, wk60_19⟩
theorem mfX8_326 : mF RX8 326 7 10 := ⟨by decide, by decide, wk60_20⟩
theorem mfX8_329 : mF RX8 329 7 11 := ⟨by decide, by decide, wk60_21⟩
theorem mfX8_348 : mF RX8 348 7 3 := ⟨by decide, by decide, wk66_0⟩
theorem mfX9_7 : mF RX9 7 9 0 := ⟨by decide, by decide, wk5_10⟩
theorem mfX9_13 : mF RX9 13 9 1 := ⟨by decide, by decide, wk5_11⟩
theorem mfX9_16 : mF RX9 16 9 2 := ⟨by decide, by decide, wk5_12⟩
theorem mfX9_19 : mF RX9 19 9 3 := ⟨by decide, by decide, wk5_13⟩
theorem mfX9_22 : mF RX9 22 9 5 := ⟨by decide, by decide, wk5_14⟩
theorem mfX9_26 : mF RX9 26 9 6 := ⟨by decide, by decide, wk5_15⟩
theorem mfX9_29 : mF RX9 29 9 15 := ⟨by decide, by decide, wk5_16⟩
theorem mfX9_32 : mF RX9 32 9 21 := ⟨by decide, by decide, wk5_17⟩
theorem mfX9_35 : mF RX9 35 9 22 := ⟨by decide, by decide, wk5_19⟩
theorem mfX9_39 : mF RX9 39 9 23 := ⟨by decide, by decide, wk5_21⟩
theorem mfX9_43 : mF RX9 43 9 24 := ⟨by decide, by decide, wk5_22⟩
theorem mfX9_46 : mF RX9 46 9 29 := ⟨by decide, by decide, wk5_23⟩
theorem mfX9_49 : mF RX9 49 9 32 := ⟨by decide, by decide, wk6_0⟩
theorem mfX9_52 : mF RX9 52 9 33 := ⟨by decide, by decide, wk6_1⟩
theorem mfX9_55 : mF RX9 55 9 34 := ⟨by decide, by decide, wk6_2⟩
theorem mfX9_58 : mF RX9 58 9 35 := ⟨by decide, by decide, wk6_3⟩
theorem mfX9_92 : mF RX9 92 9 4 := ⟨by decide, by decide, wk8_16⟩
theorem mfX9_98 : mF RX9 98 9 7 := ⟨by decide, by decide, wk20_8⟩
theorem mfX9_105 : mF RX9 105 9 8 := ⟨by decide, by decide, wk20_0⟩
theorem mfX9_108 : mF RX9 108 9 9 := ⟨by decide, by decide, wk20_9⟩
theorem mfX9_114 : mF RX9 114 9 10 := ⟨by decide, by decide, wk20_14⟩
theorem mfX9_121 : mF RX9 121 9 11 := ⟨by decide, by decide, wk20_16⟩
theorem mfX9_146 : mF RX9 146 9 12 := ⟨by decide, by decide, wk20_5⟩
theorem mfX9_149 : mF RX9 149 9 13 := ⟨by decide, by decide, wk20_6⟩
theorem mfX9_164 : mF RX9 164 9 16 := ⟨by decide, by decide, wk23_22⟩
theorem mfX9_174 : mF RX9 174 9 17 := ⟨by decide, by decide, wk23_23⟩
theorem mfX9_177 : mF RX9 177 9 19 := ⟨by decide, by decide, wk24_1⟩
theorem mfX9_191 : mF RX9 191 9 14 := ⟨by decide, by decide, wk21_11⟩
theorem mfX9_210 : mF RX9 210 9 18 := ⟨by decide, by decide, wk24_0⟩
theorem mfX9_250 : mF RX9 250 9 20 := ⟨by decide, by decide, wk20_7⟩
theorem mfX9_411 : mF RX9 411 9 25 := ⟨by decide, by decide, wk53_11⟩
theorem mfX9_414 : mF RX9 414 9 26 := ⟨by decide, by decide, wk53_12⟩
theorem mfX9_417 : mF RX9 417 9 27 := ⟨by decide, by decide, wk53_5⟩
theorem mfX9_420 : mF RX9 420 9 28 := ⟨by decide, by decide, wk53_6⟩
theorem mfX9_437 : mF RX9 437 9 30 := ⟨by decide, by decide, wk55_21⟩
theorem mfX9_440 : mF RX9 440 9 31 := ⟨by decide, by decide, wk55_20⟩
abbrev μX0_init : mM := (yX0_init, cX0_init, 1, none)
abbrev μX0_choose : mM := (yX0_choose, cX0_choose, 3, none)
abbrev μX0_pairFrom : mM := (yX0_pairFrom, cX0_pairFrom, 6, none)
abbrev μX0_keepBetter : mM := (yX0_keepBetter, cX0_keepBetter, 2, none)
abbrev μX1_init : mM := (yX1_init, cX1_init, 1, none)
abbrev μX1_plan : mM := (yX1_plan, cX1_plan, 3, none)
abbrev μX1_canPlace : mM := (yX1_canPlace, cX1_canPlace, 7, (some .boolean))
abbrev μX2_init : mM := (yX2_init, cX2_init, 1, none)
abbrev μX2_lookAt : mM := (yX2_lookAt, cX2_lookAt, 5, none)
abbrev μX2_note : mM := (yX2_note, cX2_note, 3, none)
abbrev μX2_choices : mM := (yX2_choices, cX2_choices, 2, (some .int))
abbrev μX2_countWith : mM := (yX2_countWith, cX2_countWith, 2, (some .int))
abbrev μX2_offHalf : mM := (yX2_offHalf, cX2_offHalf, 2, (some .int))
abbrev μX2_inAll : mM := (yX2_inAll, cX2_inAll, 3, (some .int))
abbrev μX3_init : mM := (yX3_init, cX3_init, 1, none)
abbrev μX3_lookAt : mM := (yX3_lookAt, cX3_lookAt, 4, none)
abbrev μX3_isOpen : mM := (yX3_isOpen, cX3_isOpen, 2, (some .boolean))
abbrev μX3_openBeside : mM := (yX3_openBeside, cX3_openBeside, 2, (some .int))
abbrev μX3_earnedBy : mM := (yX3_earnedBy, cX3_earnedBy, 4, (some .int))
abbrev μX3_lostBy : mM := (yX3_lostBy, cX3_lostBy, 4, (some .int))
abbrev μX3_letsIn : mM := (yX3_letsIn, cX3_letsIn, 4, (some .boolean))
abbrev μX3_passDay : mM := (yX3_passDay, cX3_passDay, 5, none)
abbrev μX3_valueOf : mM := (yX3_valueOf, cX3_valueOf, 9, (some .int))
abbrev μX3_joined : mM := (yX3_joined, cX3_joined, 3, (some .int))
abbrev μX3_isSo : mM := (yX3_isSo, cX3_isSo, 3, (some .boolean))
abbrev μX3_limited : mM := (yX3_limited, cX3_limited, 2, (some .int))
abbrev μX3_digitAt : mM := (yX3_digitAt, cX3_digitAt, 4, (some .int))
abbrev μX4_init : mM := (yX4_init, cX4_init, 1, none)
abbrev μX4_read : mM := (yX4_read, cX4_read, 5, none)
abbrev μX4_splitUp : mM := (yX4_splitUp, cX4_splitUp, 6, none)
abbrev μX4_tokenEnd : mM := (yX4_tokenEnd, cX4_tokenEnd, 4, (some .int))
abbrev μX4_isLetter : mM := (yX4_isLetter, cX4_isLetter, 1, (some .boolean))
abbrev μX4_isDigit : mM := (yX4_isDigit, cX4_isDigit, 1, (some .boolean))
abbrev μX4_kindOf : mM := (yX4_kindOf, cX4_kindOf, 4, (some .int))
abbrev μX4_kindOfWord : mM := (yX4_kindOfWord, cX4_kindOfWord, 4, (some .int))
abbrev μX4_isWord : mM := (yX4_isWord, cX4_isWord, 7, (some .boolean))
abbrev μX4_valueOf : mM := (yX4_valueOf, cX4_valueOf, 5, (some .int))
abbrev μX4_kind : mM := (yX4_kind, cX4_kind, 1, (some .int))
abbrev μX4_advance : mM := (yX4_advance, cX4_advance, 1, none)
abbrev μX4_fail : mM := (yX4_fail, cX4_fail, 2, none)
abbrev μX4_expect : mM := (yX4_expect, cX4_expect, 2, none)
abbrev μX4_expectNumber : mM := (yX4_expectNumber, cX4_expectNumber, 4, (some .int))
abbrev μX4_isLaw : mM := (yX4_isLaw, cX4_isLaw, 1, (some .boolean))
abbrev μX4_canStart : mM := (yX4_canStart, cX4_canStart, 2, (some .boolean))
abbrev μX4_readDeed : mM := (yX4_readDeed, cX4_readDeed, 5, none)
abbrev μX4_readLaw : mM := (yX4_readLaw, cX4_readLaw, 3, none)
abbrev μX4_readEither : mM := (yX4_readEither, cX4_readEither, 4, none)
abbrev μX4_readAsk : mM := (yX4_readAsk, cX4_readAsk, 4, none)
abbrev μX4_isRelation : mM := (yX4_isRelation, cX4_isRelation, 1, (some .boolean))
abbrev μX4_readSum : mM := (yX4_readSum, cX4_readSum, 4, none)
abbrev μX4_readProduct : mM := (yX4_readProduct, cX4_readProduct, 4, none)
abbrev μX4_readOne : mM := (yX4_readOne, cX4_readOne, 3, none)
abbrev μX4_readEntered : mM := (yX4_readEntered, cX4_readEntered, 3, none)
abbrev μX4_readName : mM := (yX4_readName, cX4_readName, 2, none)
abbrev μX4_canEnter : mM := (yX4_canEnter, cX4_canEnter, 2, (some .boolean))
abbrev μX4_emit : mM := (yX4_emit, cX4_emit, 2, none)
abbrev μX5_init : mM := (yX5_init, cX5_init, 1, none)
abbrev μX5_clear : mM := (yX5_clear, cX5_clear, 2, none)
abbrev μX5_copyFrom : mM := (yX5_copyFrom, cX5_copyFrom, 2, none)
abbrev μX5_has : mM := (yX5_has, cX5_has, 2, (some .boolean))
abbrev μX5_append : mM := (yX5_append, cX5_append, 2, none)
abbrev μX5_appendClause : mM := (yX5_appendClause, cX5_appendClause, 6, none)
abbrev μX5_kindOf : mM := (yX5_kindOf, cX5_kindOf, 2, (some .int))
abbrev μX5_numberOf : mM := (yX5_numberOf, cX5_numberOf, 3, (some .int))
abbrev μX6_init : mM := (yX6_init, cX6_init, 1, none)
abbrev μX6_copyFrom : mM := (yX6_copyFrom, cX6_copyFrom, 2, none)
abbrev μX6_returnTo : mM := (yX6_returnTo, cX6_returnTo, 3, none)
abbrev μX6_told : mM := (yX6_told, cX6_told, 2, (some .boolean))
abbrev μX6_isGone : mM := (yX6_isGone, cX6_isGone, 2, (some .boolean))
abbrev μX6_lives : mM := (yX6_lives, cX6_lives, 2, (some .boolean))
abbrev μX6_living : mM := (yX6_living, cX6_living, 1, (some .int))
abbrev μX6_date : mM := (yX6_date, cX6_date, 1, (some .int))
abbrev μX6_isShut : mM := (yX6_isShut, cX6_isShut, 3, (some .boolean))
abbrev μX6_shutOn : mM := (yX6_shutOn, cX6_shutOn, 4, (some .int))
abbrev μX6_openOn : mM := (yX6_openOn, cX6_openOn, 2, (some .int))
abbrev μX6_howManyShut : mM := (yX6_howManyShut, cX6_howManyShut, 2, (some .int))
abbrev μX6_settle : mM := (yX6_settle, cX6_settle, 4, (some .int))
abbrev μX6_befriend : mM := (yX6_befriend, cX6_befriend, 3, none)
abbrev μX6_writeKnock : mM := (yX6_writeKnock, cX6_writeKnock, 3, none)
abbrev μX6_dayOfKnock : mM := (yX6_dayOfKnock, cX6_dayOfKnock, 2, (some .int))
abbrev μX6_houseOfKnock : mM := (yX6_houseOfKnock, cX6_houseOfKnock, 2, (some .int))
abbrev μX6_wasShut : mM := (yX6_wasShut, cX6_wasShut, 2, (some .boolean))
abbrev μX6_howManyKnocks : mM := (yX6_howManyKnocks, cX6_howManyKnocks, 5, (some .int))
abbrev μX6_marriedDates : mM := (yX6_marriedDates, cX6_marriedDates, 5, (some .int))
abbrev μX6_join : mM := (yX6_join, cX6_join, 4, none)
abbrev μX6_drawX : mM := (yX6_drawX, cX6_drawX, 2, (some .int))
abbrev μX6_canDraw : mM := (yX6_canDraw, cX6_canDraw, 2, (some .boolean))
abbrev μX6_drawDate : mM := (yX6_drawDate, cX6_drawDate, 4, (some .int))
abbrev μX6_canForget : mM := (yX6_canForget, cX6_canForget, 3, (some .boolean))
abbrev μX6_dropDate : mM := (yX6_dropDate, cX6_dropDate, 3, none)
abbrev μX6_guestsOn : mM := (yX6_guestsOn, cX6_guestsOn, 5, (some .int))
abbrev μX6_datesBut : mM := (yX6_datesBut, cX6_datesBut, 4, (some .int))
abbrev μX6_allOpenOnce : mM := (yX6_allOpenOnce, cX6_allOpenOnce, 3, (some .boolean))
abbrev μX6_loot : mM := (yX6_loot, cX6_loot, 7, (some .int))
abbrev μX6_robbedFirst : mM := (yX6_robbedFirst, cX6_robbedFirst, 5, (some .int))
abbrev μX6_wealth : mM := (yX6_wealth, cX6_wealth, 3, (some .int))
abbrev μX7_init : mM := (yX7_init, cX7_init, 2, none)
abbrev μX7_copyFrom : mM := (yX7_copyFrom, cX7_copyFrom, 3, none)
abbrev μX7_keepStep : mM := (yX7_keepStep, cX7_keepStep, 1, none)
abbrev μX7_takeStepBack : mM := (yX7_takeStepBack, cX7_takeStepBack, 1, (some .int))
abbrev μX7_knowingNext : mM := (yX7_knowingNext, cX7_knowingNext, 4, (some .int))
abbrev μX8_init : mM := (yX8_init, cX8_init, 2, none)
abbrev μX8_house : mM := (yX8_house, cX8_house, 6, (some .int))
abbrev μX8_feed : mM := (yX8_feed, cX8_feed, 6, (some .int))
abbrev μX8_end : mM := (yX8_end, cX8_end, 2, (some .int))
abbrev μX8_text : mM := (yX8_text, cX8_text, 1, (some .int))
abbrev μX8_fault : mM := (yX8_fault, cX8_fault, 2, (some .int))
abbrev μX8_by : mM := (yX8_by, cX8_by, 2, (some .boolean))
abbrev μX8_knock : mM := (yX8_knock, cX8_knock, 2, (some .int))
abbrev μX8_marry : mM := (yX8_marry, cX8_marry, 4, (some .int))
abbrev μX8_hat : mM := (yX8_hat, cX8_hat, 2, (some .int))
abbrev μX8_forget : mM := (yX8_forget, cX8_forget, 3, (some .boolean))
abbrev μX8_day : mM := (yX8_day, cX8_day, 2, (some .int))
abbrev μX8_played : mM := (yX8_played, cX8_played, 4, (some .int))
abbrev μX8_years : mM := (yX8_years, cX8_years, 4, (some .int))
abbrev μX8_undo : mM := (yX8_undo, cX8_undo, 1, (some .int))
abbrev μX8_of : mM := (yX8_of, cX8_of, 4, (some .int))
abbrev μX8_is : mM := (yX8_is, cX8_is, 3, (some .int))
abbrev μX8_book : mM := (yX8_book, cX8_book, 4, (some .int))
abbrev μX8_foretold : mM := (yX8_foretold, cX8_foretold, 3, (some .int))
abbrev μX8_indoors : mM := (yX8_indoors, cX8_indoors, 3, (some .int))
abbrev μX8_crowded : mM := (yX8_crowded, cX8_crowded, 4, (some .int))
abbrev μX8_feast : mM := (yX8_feast, cX8_feast, 4, (some .int))
abbrev μX8_alone : mM := (yX8_alone, cX8_alone, 4, (some .int))
abbrev μX8_nobodys : mM := (yX8_nobodys, cX8_nobodys, 1, (some .int))
abbrev μX8_poorest : mM := (yX8_poorest, cX8_poorest, 4, (some .int))
abbrev μX8_seen : mM := (yX8_seen, cX8_seen, 4, (some .int))
abbrev μX8_sets : mM := (yX8_sets, cX8_sets, 4, (some .int))
abbrev μX8_odds : mM := (yX8_odds, cX8_odds, 7, (some .int))
abbrev μX8_nextKnock : mM := (yX8_nextKnock, cX8_nextKnock, 6, (some .int))
abbrev μX8_thieves : mM := (yX8_thieves, cX8_thieves, 5, (some .int))
abbrev μX8_night : mM := (yX8_night, cX8_night, 6, (some .int))
abbrev μX8_appointments : mM := (yX8_appointments, cX8_appointments, 4, (some .int))
abbrev μX8_rounds : mM := (yX8_rounds, cX8_rounds, 3, (some .int))
abbrev μX8_weddings : mM := (yX8_weddings, cX8_weddings, 2, (some .int))
abbrev μX8_twins : mM := (yX8_twins, cX8_twins, 5, (some .int))
abbrev μX8_gossip : mM := (yX8_gossip, cX8_gossip, 3, (some .int))
abbrev μX8_knows : mM := (yX8_knows, cX8_knows, 5, (some .int))
abbrev μX8_never : mM := (yX8_never, cX8_never, 4, (some .int))
abbrev μX8_richest : mM := (yX8_richest, cX8_richest, 6, (some .int))
abbrev μX8_whose : mM := (yX8_whose, cX8_whose, 6, (some .int))
abbrev μX8_knocks : mM := (yX8_knocks, cX8_knocks, 3, (some .int))
abbrev μX8_offended : mM := (yX8_offended, cX8_offended, 5, (some .int))
abbrev μX8_leap : mM := (yX8_leap, cX8_leap, 5, (some .int))
abbrev μX8_image : mM := (yX8_image, cX8_image, 1, (some .int))
abbrev μX8_back : mM := (yX8_back, cX8_back, 1, (some .int))
abbrev μX8_about : mM := (yX8_about, cX8_about, 2, (some .int))
abbrev μX8_isWithin : mM := (yX8_isWithin, cX8_isWithin, 3, (some .boolean))
abbrev μX8_isDate : mM := (yX8_isDate, cX8_isDate, 1, (some .boolean))
abbrev μX8_isDateOrNone : mM := (yX8_isDateOrNone, cX8_isDateOrNone, 1, (some .boolean))
abbrev μX8_isSameDate : mM := (yX8_isSameDate, cX8_isSameDate, 2, (some .boolean))
abbrev μX8_bitOf : mM := (yX8_bitOf, cX8_bitOf, 1, (some .int))
abbrev μX8_commonDivisor : mM := (yX8_commonDivisor, cX8_commonDivisor, 6, (some .int))
abbrev μX8_isText : mM := (yX8_isText, cX8_isText, 2, (some .boolean))
abbrev μX8_isGuess : mM := (yX8_isGuess, cX8_isGuess, 3, (some .boolean))
abbrev μX8_rule : mM := (yX8_rule, cX8_rule, 1, (some (.object "ShutDays$Text")))
abbrev μX8_appendBytes : mM := (yX8_appendBytes, cX8_appendBytes, 3, none)
abbrev μX8_underTheLaw : mM := (yX8_underTheLaw, cX8_underTheLaw, 4, (some .int))
abbrev μX8_knockAt : mM := (yX8_knockAt, cX8_knockAt, 4, (some .int))
abbrev μX8_passDays : mM := (yX8_passDays, cX8_passDays, 3, (some .int))
abbrev μX8_tryDays : mM := (yX8_tryDays, cX8_tryDays, 4, none)
abbrev μX8_isCarriedOut : mM := (yX8_isCarriedOut, cX8_isCarriedOut, 5, (some .boolean))
abbrev μX8_isHatPassed : mM := (yX8_isHatPassed, cX8_isHatPassed, 2, (some .boolean))
abbrev μX8_takeTurn : mM := (yX8_takeTurn, cX8_takeTurn, 4, none)
abbrev μX8_earnedOn : mM := (yX8_earnedOn, cX8_earnedOn, 6, (some .int))
abbrev μX9_init : mM := (yX9_init, cX9_init, 1, none)
abbrev μX9_copy : mM := (yX9_copy, cX9_copy, 3, none)
abbrev μX9_isIn : mM := (yX9_isIn, cX9_isIn, 3, (some .boolean))
abbrev μX9_cut : mM := (yX9_cut, cX9_cut, 4, (some .int))
abbrev μX9_has : mM := (yX9_has, cX9_has, 2, (some .boolean))
abbrev μX9_bits : mM := (yX9_bits, cX9_bits, 3, (some .int))
abbrev μX9_isHouse : mM := (yX9_isHouse, cX9_isHouse, 2, (some .boolean))
abbrev μX9_get : mM := (yX9_get, cX9_get, 3, (some .int))
abbrev μX9_put : mM := (yX9_put, cX9_put, 4, none)
abbrev μX9_isHere : mM := (yX9_isHere, cX9_isHere, 2, (some .boolean))
abbrev μX9_isOpen : mM := (yX9_isOpen, cX9_isOpen, 3, (some .boolean))
abbrev μX9_date : mM := (yX9_date, cX9_date, 1, (some .int))
abbrev μX9_house : mM := (yX9_house, cX9_house, 7, (some .int))
abbrev μX9_begin : mM := (yX9_begin, cX9_begin, 3, none)
abbrev μX9_four : mM := (yX9_four, cX9_four, 3, none)
abbrev μX9_feed : mM := (yX9_feed, cX9_feed, 6, (some .int))
abbrev μX9_end : mM := (yX9_end, cX9_end, 2, (some .int))
abbrev μX9_byteAt : mM := (yX9_byteAt, cX9_byteAt, 2, (some .int))
abbrev μX9_isLetterByte : mM := (yX9_isLetterByte, cX9_isLetterByte, 1, (some .boolean))
abbrev μX9_isFigure : mM := (yX9_isFigure, cX9_isFigure, 1, (some .boolean))
abbrev μX9_isSign : mM := (yX9_isSign, cX9_isSign, 1, (some .boolean))
abbrev μX9_nextToken : mM := (yX9_nextToken, cX9_nextToken, 2, none)
abbrev μX9_w2 : mM := (yX9_w2, cX9_w2, 2, (some .long))
abbrev μX9_w3 : mM := (yX9_w3, cX9_w3, 3, (some .long))
abbrev μX9_w4 : mM := (yX9_w4, cX9_w4, 4, (some .long))
abbrev μX9_w5 : mM := (yX9_w5, cX9_w5, 5, (some .long))
abbrev μX9_w6 : mM := (yX9_w6, cX9_w6, 6, (some .long))
abbrev μX9_isWord : mM := (yX9_isWord, cX9_isWord, 3, (some .boolean))
abbrev μX9_emit : mM := (yX9_emit, cX9_emit, 3, none)
abbrev μX9_isLong : mM := (yX9_isLong, cX9_isLong, 5, (some .boolean))
abbrev μX9_isFriends : mM := (yX9_isFriends, cX9_isFriends, 1, (some .boolean))
abbrev μX9_nameOf : mM := (yX9_nameOf, cX9_nameOf, 1, (some .int))
abbrev μX9_rank : mM := (yX9_rank, cX9_rank, 1, (some .int))
abbrev μX9_settle : mM := (yX9_settle, cX9_settle, 2, none)
abbrev μX9_isShut : mM := (yX9_isShut, cX9_isShut, 2, (some .boolean))
abbrev μX9_isCompared : mM := (yX9_isCompared, cX9_isCompared, 2, (some .boolean))
abbrev μX9_isAskAhead : mM := (yX9_isAskAhead, cX9_isAskAhead, 1, (some .boolean))
abbrev μX9_opened : mM := (yX9_opened, cX9_opened, 2, (some .int))
abbrev μX9_beginOne : mM := (yX9_beginOne, cX9_beginOne, 2, (some .int))
abbrev μX9_endOne : mM := (yX9_endOne, cX9_endOne, 1, (some .int))
abbrev μX9_compareOf : mM := (yX9_compareOf, cX9_compareOf, 1, (some .int))
abbrev μX9_betweenOf : mM := (yX9_betweenOf, cX9_betweenOf, 1, (some .int))
abbrev μX9_behindOne : mM := (yX9_behindOne, cX9_behindOne, 2, (some .int))
abbrev μX9_parsed : mM := (yX9_parsed, cX9_parsed, 3, (some .int))
abbrev μX9_figure : mM := (yX9_figure, cX9_figure, 4, (some .int))
abbrev μX9_worded : mM := (yX9_worded, cX9_worded, 5, (some .int))
abbrev μX9_lawClause : mM := (yX9_lawClause, cX9_lawClause, 4, (some .int))
abbrev μX9_houseClause : mM := (yX9_houseClause, cX9_houseClause, 3, (some .int))
abbrev μX9_body : mM := (yX9_body, cX9_body, 4, (some .int))
abbrev μX9_sortOf : mM := (yX9_sortOf, cX9_sortOf, 1, (some .int))
abbrev μX9_clause : mM := (yX9_clause, cX9_clause, 5, (some .int))
abbrev μX9_readText : mM := (yX9_readText, cX9_readText, 2, (some .int))
abbrev μX9_text : mM := (yX9_text, cX9_text, 1, (some .int))
abbrev μX9_fault : mM := (yX9_fault, cX9_fault, 2, (some .int))
abbrev μX9_by : mM := (yX9_by, cX9_by, 2, (some .boolean))
abbrev μX9_clip : mM := (yX9_clip, cX9_clip, 2, (some .long))
abbrev μX9_two : mM := (yX9_two, cX9_two, 5, (some .long))
abbrev μX9_isAsked : mM := (yX9_isAsked, cX9_isAsked, 5, (some .boolean))
abbrev μX9_digit : mM := (yX9_digit, cX9_digit, 8, (some .long))
abbrev μX9_isDividing : mM := (yX9_isDividing, cX9_isDividing, 4, (some .boolean))
abbrev μX9_joined : mM := (yX9_joined, cX9_joined, 3, (some .boolean))
abbrev μX9_work : mM := (yX9_work, cX9_work, 9, none)
abbrev μX9_clauseOf : mM := (yX9_clauseOf, cX9_clauseOf, 3, (some .int))
abbrev μX9_says : mM := (yX9_says, cX9_says, 4, (some .int))
abbrev μX9_openOn : mM := (yX9_openOn, cX9_openOn, 4, (some .int))
abbrev μX9_besideOn : mM := (yX9_besideOn, cX9_besideOn, 3, (some .int))
abbrev μX9_name : mM := (yX9_name, cX9_name, 3, none)
abbrev μX9_earnsOn : mM := (yX9_earnsOn, cX9_earnsOn, 3, (some .int))
abbrev μX9_losesOf : mM := (yX9_losesOf, cX9_losesOf, 2, (some .int))
abbrev μX9_isLetting : mM := (yX9_isLetting, cX9_isLetting, 3, (some .boolean))
abbrev μX9_pass : mM := (yX9_pass, cX9_pass, 4, none)
abbrev μX9_keep : mM := (yX9_keep, cX9_keep, 4, none)
abbrev μX9_undo : mM := (yX9_undo, cX9_undo, 4, (some .int))
abbrev μX9_write : mM := (yX9_write, cX9_write, 4, none)
abbrev μX9_knockNow : mM := (yX9_knockNow, cX9_knockNow, 4, (some .int))
abbrev μX9_knock : mM := (yX9_knock, cX9_knock, 2, (some .int))
abbrev μX9_marry : mM := (yX9_marry, cX9_marry, 5, (some .int))
abbrev μX9_canDraw : mM := (yX9_canDraw, cX9_canDraw, 2, (some .boolean))
abbrev μX9_anew : mM := (yX9_anew, cX9_anew, 1, none)
abbrev μX9_hatNow : mM := (yX9_hatNow, cX9_hatNow, 4, (some .int))
abbrev μX9_hat : mM := (yX9_hat, cX9_hat, 2, (some .int))
abbrev μX9_canForget : mM := (yX9_canForget, cX9_canForget, 3, (some .boolean))
abbrev μX9_forgetNow : mM := (yX9_forgetNow, cX9_forgetNow, 3, none)
abbrev μX9_forget : mM := (yX9_forget, cX9_forget, 3, (some .boolean))
abbrev μX9_arePassed : mM := (yX9_arePassed, cX9_arePassed, 3, (some .boolean))
abbrev μX9_day : mM := (yX9_day, cX9_day, 2, (some .int))
abbrev μX9_isPlayed : mM := (yX9_isPlayed, cX9_isPlayed, 5, (some .boolean))
abbrev μX9_played : mM := (yX9_played, cX9_played, 3, (some .int))
abbrev μX9_happens : mM := (yX9_happens, cX9_happens, 3, none)
abbrev μX9_years : mM := (yX9_years, cX9_years, 5, (some .int))
abbrev μX9_of : mM := (yX9_of, cX9_of, 3, (some .int))
abbrev μX9_is : mM := (yX9_is, cX9_is, 2, (some .int))
abbrev μX9_entry : mM := (yX9_entry, cX9_entry, 3, (some .int))
abbrev μX9_book : mM := (yX9_book, cX9_book, 3, (some .int))
abbrev μX9_knocksAt : mM := (yX9_knocksAt, cX9_knocksAt, 5, (some .int))
abbrev μX9_knocks : mM := (yX9_knocks, cX9_knocks, 3, (some .int))
abbrev μX9_offended : mM := (yX9_offended, cX9_offended, 4, (some .int))
abbrev μX9_setAside : mM := (yX9_setAside, cX9_setAside, 2, none)
abbrev μX9_putBack : mM := (yX9_putBack, cX9_putBack, 2, none)
abbrev μX9_goOn : mM := (yX9_goOn, cX9_goOn, 3, none)
abbrev μX9_foretold : mM := (yX9_foretold, cX9_foretold, 4, (some .int))
abbrev μX9_poorest : mM := (yX9_poorest, cX9_poorest, 4, (some .int))
abbrev μX9_whose : mM := (yX9_whose, cX9_whose, 8, (some .int))
abbrev μX9_shutOn : mM := (yX9_shutOn, cX9_shutOn, 4, (some .int))
abbrev μX9_indoors : mM := (yX9_indoors, cX9_indoors, 3, (some .int))
abbrev μX9_crowded : mM := (yX9_crowded, cX9_crowded, 4, (some .int))
abbrev μX9_friendsOn : mM := (yX9_friendsOn, cX9_friendsOn, 4, (some .int))
abbrev μX9_feast : mM := (yX9_feast, cX9_feast, 4, (some .int))
abbrev μX9_alone : mM := (yX9_alone, cX9_alone, 5, (some .int))
abbrev μX9_nobodys : mM := (yX9_nobodys, cX9_nobodys, 3, (some .int))
abbrev μX9_seen : mM := (yX9_seen, cX9_seen, 5, (some .int))
abbrev μX9_note : mM := (yX9_note, cX9_note, 3, none)
abbrev μX9_count : mM := (yX9_count, cX9_count, 3, none)
abbrev μX9_laySets : mM := (yX9_laySets, cX9_laySets, 6, none)
abbrev μX9_sets : mM := (yX9_sets, cX9_sets, 4, (some .int))
abbrev μX9_common : mM := (yX9_common, cX9_common, 5, (some .int))
abbrev μX9_odds : mM := (yX9_odds, cX9_odds, 5, (some .int))
abbrev μX9_nextKnock : mM := (yX9_nextKnock, cX9_nextKnock, 7, (some .int))
abbrev μX9_layThieves : mM := (yX9_layThieves, cX9_layThieves, 7, none)
abbrev μX9_thieves : mM := (yX9_thieves, cX9_thieves, 4, (some .int))
abbrev μX9_night : mM := (yX9_night, cX9_night, 5, (some .int))
abbrev μX9_isLaid : mM := (yX9_isLaid, cX9_isLaid, 8, (some .boolean))
abbrev μX9_layMembers : mM := (yX9_layMembers, cX9_layMembers, 4, (some .int))
abbrev μX9_areHere : mM := (yX9_areHere, cX9_areHere, 3, (some .boolean))
abbrev μX9_appointments : mM := (yX9_appointments, cX9_appointments, 7, (some .int))
abbrev μX9_isRound : mM := (yX9_isRound, cX9_isRound, 3, (some .boolean))
abbrev μX9_rounds : mM := (yX9_rounds, cX9_rounds, 4, (some .int))
abbrev μX9_sharedNow : mM := (yX9_sharedNow, cX9_sharedNow, 3, (some .int))
abbrev μX9_nextMate : mM := (yX9_nextMate, cX9_nextMate, 4, (some .int))
abbrev μX9_nextRow : mM := (yX9_nextRow, cX9_nextRow, 4, (some .boolean))
abbrev μX9_wed : mM := (yX9_wed, cX9_wed, 5, (some .int))
abbrev μX9_weddings : mM := (yX9_weddings, cX9_weddings, 3, (some .int))
abbrev μX9_twins : mM := (yX9_twins, cX9_twins, 4, (some .int))
abbrev μX9_gossip : mM := (yX9_gossip, cX9_gossip, 3, (some .int))
abbrev μX9_spread : mM := (yX9_spread, cX9_spread, 4, (some .int))
abbrev μX9_knows : mM := (yX9_knows, cX9_knows, 5, (some .int))
abbrev μX9_never : mM := (yX9_never, cX9_never, 4, (some .int))
abbrev μX9_earnedOn : mM := (yX9_earnedOn, cX9_earnedOn, 5, (some .int))
abbrev μX9_richest : mM := (yX9_richest, cX9_richest, 4, (some .int))
abbrev μX9_later : mM := (yX9_later, cX9_later, 4, (some .int))
abbrev μX9_leap : mM := (yX9_leap, cX9_leap, 4, (some .int))
abbrev μX9_image : mM := (yX9_image, cX9_image, 1, (some .int))
abbrev μX9_back : mM := (yX9_back, cX9_back, 1, (some .int))
abbrev μX9_about : mM := (yX9_about, cX9_about, 2, (some .int))
abbrev μJ11_isValidCodePoint_9a6ad : mM := (yJ11_isValidCodePoint_9a6ad, cJ11_isValidCodePoint_9a6ad, 2, (some .boolean))
abbrev μJ11_highSurrogate_5068e : mM := (yJ11_highSurrogate_5068e, cJ11_highSurrogate_5068e, 1, (some .char))
abbrev μJ11_lowSurrogate_5068e : mM := (yJ11_lowSurrogate_5068e, cJ11_lowSurrogate_5068e, 1, (some .char))
abbrev μJ6_bitCount_0f7a4 : mM := (yJ6_bitCount_0f7a4, cJ6_bitCount_0f7a4, 1, (some .int))
abbrev μJ9_abs_0f7a4 : mM := (yJ9_abs_0f7a4, cJ9_abs_0f7a4, 1, (some .int))
abbrev μJ9_max_7cf53 : mM := (yJ9_max_7cf53, cJ9_max_7cf53, 2, (some .int))
abbrev μJ9_max_f86c9 : mM := (yJ9_max_f86c9, cJ9_max_f86c9, 4, (some .long))
abbrev μJ9_min_7cf53 : mM := (yJ9_min_7cf53, cJ9_min_7cf53, 2, (some .int))
abbrev μJ9_min_f86c9 : mM := (yJ9_min_f86c9, cJ9_min_f86c9, 4, (some .long))
abbrev μJ0_length_8abf5 : mM := (yJ0_length_8abf5, cJ0_length_8abf5, 1, (some .int))
abbrev μJ0_charAt_5068e : mM := (yJ0_charAt_5068e, cJ0_charAt_5068e, 2, (some .char))
abbrev μJ0_indexOf_0f7a4 : mM := (yJ0_indexOf_0f7a4, cJ0_indexOf_0f7a4, 2, (some .int))
abbrev μJ0_indexOf_7cf53 : mM := (yJ0_indexOf_7cf53, cJ0_indexOf_7cf53, 3, (some .int))
abbrev μJ0_coder_7d493 : mM := (yJ0_coder_7d493, cJ0_coder_7d493, 1, (some .byte))
abbrev μJ0_isLatin1_aae02 : mM := (yJ0_isLatin1_aae02, cJ0_isLatin1_aae02, 1, (some .boolean))
abbrev μJ0_checkIndex_df160 : mM := (yJ0_checkIndex_df160, cJ0_checkIndex_df160, 2, none)
abbrev μJ0_checkBoundsBeginEnd_23922 : mM := (yJ0_checkBoundsBeginEnd_23922, cJ0_checkBoundsBeginEnd_23922, 3, none)
abbrev μJ1_charAt_3b067 : mM := (yJ1_charAt_3b067, cJ1_charAt_3b067, 2, (some .char))
abbrev μJ1_canEncode_9a6ad : mM := (yJ1_canEncode_9a6ad, cJ1_canEncode_9a6ad, 1, (some .boolean))
abbrev μJ1_indexOf_4cfef : mM := (yJ1_indexOf_4cfef, cJ1_indexOf_4cfef, 4, (some .int))
abbrev μJ1_indexOfChar_4cfef : mM := (yJ1_indexOfChar_4cfef, cJ1_indexOfChar_4cfef, 6, (some .int))
abbrev μJ2_getChar_3b067 : mM := (yJ2_getChar_3b067, cJ2_getChar_3b067, 2, (some .char))
abbrev μJ2_length_9d52b : mM := (yJ2_length_9d52b, cJ2_length_9d52b, 1, (some .int))
abbrev μJ2_indexOf_4cfef : mM := (yJ2_indexOf_4cfef, cJ2_indexOf_4cfef, 4, (some .int))
abbrev μJ2_indexOfChar_4cfef : mM := (yJ2_indexOfChar_4cfef, cJ2_indexOfChar_4cfef, 4, (some .int))
abbrev μJ2_indexOfCharUnsafe_4cfef : mM := (yJ2_indexOfCharUnsafe_4cfef, cJ2_indexOfCharUnsafe_4cfef, 5, (some .int))
abbrev μJ2_indexOfSupplementary_4cfef : mM := (yJ2_indexOfSupplementary_4cfef, cJ2_indexOfSupplementary_4cfef, 7, (some .int))
abbrev μJ2_charAt_3b067 : mM := (yJ2_charAt_3b067, cJ2_charAt_3b067, 2, (some .char))
abbrev μJ2_checkIndex_2214a : mM := (yJ2_checkIndex_2214a, cJ2_checkIndex_2214a, 2, none)
abbrev μJ2_checkBoundsBeginEnd_d044e : mM := (yJ2_checkBoundsBeginEnd_d044e, cJ2_checkBoundsBeginEnd_d044e, 3, none)
abbrev μJ3_checkIndex_8e157 : mM := (yJ3_checkIndex_8e157, cJ3_checkIndex_8e157, 3, (some .int))
abbrev μJ3_checkFromToIndex_8c36e : mM := (yJ3_checkFromToIndex_8c36e, cJ3_checkFromToIndex_8c36e, 4, (some .int))
theorem mbX0_init : mB μX0_init 0 := ⟨wk5_2, wk2_22, ⟨by decide +kernel, by decide +kernel, by decide +kernel⟩, by decide⟩
theorem mbX0_choose : mB μX0_choose 1 := ⟨wk58_21, wk2_22, ⟨by decide +kernel, by decide +kernel, by decide +kernel⟩, by decide⟩
theorem mvX0_choose : mVs μX0_choose 0 1 := ⟨mbX0_choose, by decide, rfl, wk58_19, wk58_20⟩
theorem mbX0_pairFrom : mB μX0_pairFrom 4 := ⟨wk59_1, wk2_22, ⟨by decide +kernel, by decide +kernel, by decide +kernel⟩, by decide⟩
theorem mbX0_keepBetter : mB μX0_keepBetter 1 := ⟨wk59_7, wk2_22, ⟨by decide +kernel, by decide +kernel, by decide +kernel⟩, by decide⟩
theorem mvX0_keepBetter : mVs μX0_keepBetter 0 1 := ⟨mbX0_keepBetter, by decide, rfl, wk59_5, wk59_6⟩
theorem mbX1_init : mB μX1_init 0 := ⟨wk4_22, wk2_18, ⟨by decide +kernel, by decide +kernel, by decide +kernel⟩, by decide⟩
theorem mbX1_plan : mB μX1_plan 2 := ⟨wk56_20, wk2_18, ⟨by decide +kernel, by decide +kernel, by decide +kernel⟩, by decide⟩
theorem mvX1_plan : mVs μX1_plan 1 2 := ⟨mbX1_plan, by decide, rfl, wk56_18, wk56_19⟩
theorem mbX1_canPlace : mB μX1_canPlace 5 := ⟨wk57_1, wk2_18, ⟨by decide +kernel, by decide +kernel, by decide +kernel⟩, by decide⟩
theorem mbX2_init : mB μX2_init 0 := ⟨wk4_19, wk2_14, ⟨by decide +kernel, by decide +kernel, by decide +kernel⟩, by decide⟩
theorem mbX2_lookAt : mB μX2_lookAt 3 := ⟨wk51_18, wk2_14, ⟨by decide +kernel, by decide +kernel, by decide +kernel⟩, by decide⟩
theorem mvX2_lookAt : mVs μX2_lookAt 2 3 := ⟨mbX2_lookAt, by decide, rfl, wk51_16, wk51_17⟩
theorem mbX2_note : mB μX2_note 2 := ⟨wk52_12, wk2_14, ⟨by decide +kernel, by decide +kernel, by decide +kernel⟩, by decide⟩
theorem mvX2_note : mVs μX2_note 2 2 := ⟨mbX2_note, by decide, rfl, wk52_10, wk52_11⟩
theorem mbX2_choices : mB μX2_choices 2 := ⟨wk52_16, wk2_14, ⟨by decide +kernel, by decide +kernel, by decide +kernel⟩, by decide⟩
theorem mbX2_countWith : mB μX2_countWith 1 := ⟨wk53_0, wk2_14, ⟨by decide +kernel, by decide +kernel, by decide +kernel⟩, by decide⟩
theorem mvX2_countWith : mVs μX2_countWith 2 1 := ⟨mbX2_countWith, by decide, rfl, wk52_22, wk52_23⟩
theorem mbX2_offHalf : mB μX2_offHalf 1 := ⟨wk54_20, wk2_14, ⟨by decide +kernel, by decide +kernel, by decide +kernel⟩, by decide⟩
theorem mvX2_offHalf : mVs μX2_offHalf 2 1 := ⟨mbX2_offHalf, by decide, rfl, wk54_18, wk54_19⟩
theorem mbX2_inAll : mB μX2_inAll 0 := ⟨wk52_20, wk2_14, ⟨by decide +kernel, by decide +kernel, by decide +kernel⟩, by decide⟩
theorem mvX2_inAll : mVs μX2_inAll 2 0 := ⟨mbX2_inAll, by decide, rfl, wk52_18, wk52_19⟩
theorem mbX3_init : mB μX3_init 0 := ⟨wk3_17, wk2_1, ⟨by decide +kernel, by decide +kernel, by decide +kernel⟩, by decide⟩
theorem mbX3_lookAt : mB μX3_lookAt 2 := ⟨wk29_15, wk2_1, ⟨by decide +kernel, by decide +kernel, by decide +kernel⟩, by decide⟩
theorem mvX3_lookAt : mVs μX3_lookAt 3 2 := ⟨mbX3_lookAt, by decide, rfl, wk29_13, wk29_14⟩
theorem mbX3_isOpen : mB μX3_isOpen 1 := ⟨wk31_16, wk2_1, ⟨by decide +kernel, by decide +kernel, by decide +kernel⟩, by decide⟩
theorem mvX3_isOpen : mVs μX3_isOpen 3 1 := ⟨mbX3_isOpen, by decide, rfl, wk31_14, wk31_15⟩
theorem mbX3_openBeside : mB μX3_openBeside 1 := ⟨wk31_12, wk2_1, ⟨by decide +kernel, by decide +kernel, by decide +kernel⟩, by decide⟩
theorem mvX3_openBeside : mVs μX3_openBeside 3 1 := ⟨mbX3_openBeside, by decide, rfl, wk31_10, wk31_11⟩
theorem mbX3_earnedBy : mB μX3_earnedBy 3 := ⟨wk40_7, wk2_1, ⟨by decide +kernel, by decide +kernel, by decide +kernel⟩, by decide⟩
theorem mvX3_earnedBy : mVs μX3_earnedBy 3 3 := ⟨mbX3_earnedBy, by decide, rfl, wk40_5, wk40_6⟩
theorem mbX3_lostBy : mB μX3_lostBy 3 := ⟨wk40_12, wk2_1, ⟨by decide +kernel, by decide +kernel, by decide +kernel⟩, by decide⟩
theorem mvX3_lostBy : mVs μX3_lostBy 3 3 := ⟨mbX3_lostBy, by decide, rfl, wk40_10, wk40_11⟩
theorem mbX3_letsIn : mB μX3_letsIn 3 := ⟨wk30_19, wk2_1, ⟨by decide +kernel, by decide +kernel, by decide +kernel⟩, by decide⟩
theorem mvX3_letsIn : mVs μX3_letsIn 3 3 := ⟨mbX3_letsIn, by decide, rfl, wk30_17, wk30_18⟩
theorem mbX3_passDay : mB μX3_passDay 2 := ⟨wk39_23, wk2_1, ⟨by decide +kernel, by decide +kernel, by decide +kernel⟩, by decide⟩
theorem mvX3_passDay : mVs μX3_passDay 3 2 := ⟨mbX3_passDay, by decide, rfl, wk39_21, wk39_22⟩
theorem mbX3_valueOf : mB μX3_valueOf 4 := ⟨wk31_2, wk2_1, ⟨by decide +kernel, by decide +kernel, by decide +kernel⟩, by decide⟩
theorem mvX3_valueOf : mVs μX3_valueOf 3 4 := ⟨mbX3_valueOf, by decide, rfl, wk31_0, wk31_1⟩
theorem mbX3_joined : mB μX3_joined 3 := ⟨wk31_19, wk2_1, ⟨by decide +kernel, by decide +kernel, by decide +kernel⟩, by decide⟩
theorem mbX3_isSo : mB μX3_isSo 3 := ⟨wk32_15, wk2_1, ⟨by decide +kernel, by decide +kernel, by decide +kernel⟩, by decide⟩
theorem mbX3_limited : mB μX3_limited 1 := ⟨wk31_22, wk2_1, ⟨by decide +kernel, by decide +kernel, by decide +kernel⟩, by decide⟩
theorem mbX3_digitAt : mB μX3_digitAt 2 := ⟨wk32_9, wk2_1, ⟨by decide +kernel, by decide +kernel, by decide +kernel⟩, by decide⟩
theorem mbX4_init : mB μX4_init 0 := ⟨wk3_1, wk1_16, ⟨by decide +kernel, by decide +kernel, by decide +kernel⟩, by decide⟩
theorem mbX4_read : mB μX4_read 2 := ⟨wk9_16, wk1_16, ⟨by decide +kernel, by decide +kernel, by decide +kernel⟩, by decide⟩
theorem mvX4_read : mVs μX4_read 4 2 := ⟨mbX4_read, by decide, rfl, wk9_14, wk9_15⟩
theorem mbX4_splitUp : mB μX4_splitUp 2 := ⟨wk10_8, wk1_16, ⟨by decide +kernel, by decide +kernel, by decide +kernel⟩, by decide⟩
theorem mvX4_splitUp : mVs μX4_splitUp 4 2 := ⟨mbX4_splitUp, by decide, rfl, wk10_6, wk10_7⟩
theorem mbX4_tokenEnd : mB μX4_tokenEnd 3 := ⟨wk10_12, wk1_16, ⟨by decide +kernel, by decide +kernel, by decide +kernel⟩, by decide⟩
theorem mbX4_isLetter : mB μX4_isLetter 1 := ⟨wk10_15, wk1_16, ⟨by decide +kernel, by decide +kernel, by decide +kernel⟩, by decide⟩
theorem mbX4_isDigit : mB μX4_isDigit 1 := ⟨wk10_18, wk1_16, ⟨by decide +kernel, by decide +kernel, by decide +kernel⟩, by decide⟩
theorem mbX4_kindOf : mB μX4_kindOf 3 := ⟨wk10_21, wk1_16, ⟨by decide +kernel, by decide +kernel, by decide +kernel⟩, by decide⟩
theorem mbX4_kindOfWord : mB μX4_kindOfWord 3 := ⟨wk11_0, wk1_16, ⟨by decide +kernel, by decide +kernel, by decide +kernel⟩, by decide⟩
theorem mbX4_isWord : mB μX4_isWord 4 := ⟨wk11_3, wk1_16, ⟨by decide +kernel, by decide +kernel, by decide +kernel⟩, by decide⟩
theorem mbX4_valueOf : mB μX4_valueOf 3 := ⟨wk15_16, wk1_16, ⟨by decide +kernel, by decide +kernel, by decide +kernel⟩, by decide⟩
theorem mbX4_kind : mB μX4_kind 0 := ⟨wk15_20, wk1_16, ⟨by decide +kernel, by decide +kernel, by decide +kernel⟩, by decide⟩
theorem mvX4_kind : mVs μX4_kind 4 0 := ⟨mbX4_kind, by decide, rfl, wk15_18, wk15_19⟩
theorem mbX4_advance : mB μX4_advance 0 := ⟨wk16_16, wk1_16, ⟨by decide +kernel, by decide +kernel, by decide +kernel⟩, by decide⟩
theorem mvX4_advance : mVs μX4_advance 4 0 := ⟨mbX4_advance, by decide, rfl, wk16_14, wk16_15⟩
theorem mbX4_fail : mB μX4_fail 1 := ⟨wk16_8, wk1_16, ⟨by decide +kernel, by decide +kernel, by decide +kernel⟩, by decide⟩
theorem mvX4_fail : mVs μX4_fail 4 1 := ⟨mbX4_fail, by decide, rfl, wk16_6, wk16_7⟩
theorem mbX4_expect : mB μX4_expect 1 := ⟨wk18_8, wk1_16, ⟨by decide +kernel, by decide +kernel, by decide +kernel⟩, by decide⟩
theorem mvX4_expect : mVs μX4_expect 4 1 := ⟨mbX4_expect, by decide, rfl, wk18_6, wk18_7⟩
theorem mbX4_expectNumber : mB μX4_expectNumber 2 := ⟨wk18_16, wk1_16, ⟨by decide +kernel, by decide +kernel, by decide +kernel⟩, by decide⟩
theorem mvX4_expectNumber : mVs μX4_expectNumber 4 2 := ⟨mbX4_expectNumber, by decide, rfl, wk18_14, wk18_15⟩
theorem mbX4_isLaw : mB μX4_isLaw 1 := ⟨wk16_4, wk1_16, ⟨by decide +kernel, by decide +kernel, by decide +kernel⟩, by decide⟩
theorem mbX4_canStart : mB μX4_canStart 1 := ⟨wk16_0, wk1_16, ⟨by decide +kernel, by decide +kernel, by decide +kernel⟩, by decide⟩
theorem mvX4_canStart : mVs μX4_canStart 4 1 := ⟨mbX4_canStart, by decide, rfl, wk15_22, wk15_23⟩
theorem mbX4_readDeed : mB μX4_readDeed 1 := ⟨wk19_11, wk1_16, ⟨by decide +kernel, by decide +kernel, by decide +kernel⟩, by decide⟩
theorem mvX4_readDeed : mVs μX4_readDeed 4 1 := ⟨mbX4_readDeed, by decide, rfl, wk19_9, wk19_10⟩
theorem mbX4_readLaw : mB μX4_readLaw 1 := ⟨wk16_20, wk1_16, ⟨by decide +kernel, by decide +kernel, by decide +kernel⟩, by decide⟩
theorem mvX4_readLaw : mVs μX4_readLaw 4 1 := ⟨mbX4_readLaw, by decide, rfl, wk16_18, wk16_19⟩
theorem mbX4_readEither : mB μX4_readEither 0 := ⟨wk17_4, wk1_16, ⟨by decide +kernel, by decide +kernel, by decide +kernel⟩, by decide⟩
theorem mvX4_readEither : mVs μX4_readEither 4 0 := ⟨mbX4_readEither, by decide, rfl, wk17_2, wk17_3⟩
theorem mbX4_readAsk : mB μX4_readAsk 0 := ⟨wk17_8, wk1_16, ⟨by decide +kernel, by decide +kernel, by decide +kernel⟩, by decide⟩
theorem mvX4_readAsk : mVs μX4_readAsk 4 0 := ⟨mbX4_readAsk, by decide, rfl, wk17_6, wk17_7⟩
theorem mbX4_isRelation : mB μX4_isRelation 1 := ⟨wk19_3, wk1_16, ⟨by decide +kernel, by decide +kernel, by decide +kernel⟩, by decide⟩
theorem mbX4_readSum : mB μX4_readSum 1 := ⟨wk17_16, wk1_16, ⟨by decide +kernel, by decide +kernel, by decide +kernel⟩, by decide⟩
theorem mvX4_readSum : mVs μX4_readSum 4 1 := ⟨mbX4_readSum, by decide, rfl, wk17_14, wk17_15⟩
theorem mbX4_readProduct : mB μX4_readProduct 1 := ⟨wk19_0, wk1_16, ⟨by decide +kernel, by decide +kernel, by decide +kernel⟩, by decide⟩
theorem mvX4_readProduct : mVs μX4_readProduct 4 1 := ⟨mbX4_readProduct, by decide, rfl, wk17_18, wk17_19⟩
theorem mbX4_readOne : mB μX4_readOne 1 := ⟨wk18_12, wk1_16, ⟨by decide +kernel, by decide +kernel, by decide +kernel⟩, by decide⟩
theorem mvX4_readOne : mVs μX4_readOne 4 1 := ⟨mbX4_readOne, by decide, rfl, wk18_10, wk18_11⟩
theorem mbX4_readEntered : mB μX4_readEntered 2 := ⟨wk18_4, wk1_16, ⟨by decide +kernel, by decide +kernel, by decide +kernel⟩, by decide⟩
theorem mvX4_readEntered : mVs μX4_readEntered 4 2 := ⟨mbX4_readEntered, by decide, rfl, wk18_22, wk18_23⟩
theorem mbX4_readName : mB μX4_readName 1 := ⟨wk18_20, wk1_16, ⟨by decide +kernel, by decide +kernel, by decide +kernel⟩, by decide⟩
theorem mvX4_readName : mVs μX4_readName 4 1 := ⟨mbX4_readName, by decide, rfl, wk18_18, wk18_19⟩
theorem mbX4_canEnter : mB μX4_canEnter 1 := ⟨wk17_12, wk1_16, ⟨by decide +kernel, by decide +kernel, by decide +kernel⟩, by decide⟩
theorem mvX4_canEnter : mVs μX4_canEnter 4 1 := ⟨mbX4_canEnter, by decide, rfl, wk17_10, wk17_11⟩
theorem mbX4_emit : mB μX4_emit 1 := ⟨wk17_23, wk1_16, ⟨by decide +kernel, by decide +kernel, by decide +kernel⟩, by decide⟩
theorem mvX4_emit : mVs μX4_emit 4 1 := ⟨mbX4_emit, by decide, rfl, wk17_21, wk17_22⟩
theorem mbX5_init : mB μX5_init 0 := ⟨wk3_10, wk1_21, ⟨by decide +kernel, by decide +kernel, by decide +kernel⟩, by decide⟩
theorem mbX5_clear : mB μX5_clear 0 := ⟨wk10_2, wk1_21, ⟨by decide +kernel, by decide +kernel, by decide +kernel⟩, by decide⟩
theorem mvX5_clear : mVs μX5_clear 5 0 := ⟨mbX5_clear, by decide, rfl, wk10_0, wk10_1⟩
theorem mbX5_copyFrom : mB μX5_copyFrom 1 := ⟨wk19_15, wk1_21, ⟨by decide +kernel, by decide +kernel, by decide +kernel⟩, by decide⟩
theorem mvX5_copyFrom : mVs μX5_copyFrom 5 1 := ⟨mbX5_copyFrom, by decide, rfl, wk19_13, wk19_14⟩
theorem mbX5_has : mB μX5_has 1 := ⟨wk16_12, wk1_21, ⟨by decide +kernel, by decide +kernel, by decide +kernel⟩, by decide⟩
theorem mvX5_has : mVs μX5_has 5 1 := ⟨mbX5_has, by decide, rfl, wk16_10, wk16_11⟩
theorem mbX5_append : mB μX5_append 1 := ⟨wk18_3, wk1_21, ⟨by decide +kernel, by decide +kernel, by decide +kernel⟩, by decide⟩
theorem mvX5_append : mVs μX5_append 5 1 := ⟨mbX5_append, by decide, rfl, wk18_1, wk18_2⟩
theorem mbX5_appendClause : mB μX5_appendClause 4 := ⟨wk19_7, wk1_21, ⟨by decide +kernel, by decide +kernel, by decide +kernel⟩, by decide⟩
theorem mvX5_appendClause : mVs μX5_appendClause 5 4 := ⟨mbX5_appendClause, by decide, rfl, wk19_5, wk19_6⟩
theorem mbX5_kindOf : mB μX5_kindOf 1 := ⟨wk42_5, wk1_21, ⟨by decide +kernel, by decide +kernel, by decide +kernel⟩, by decide⟩
theorem mvX5_kindOf : mVs μX5_kindOf 5 1 := ⟨mbX5_kindOf, by decide, rfl, wk42_3, wk42_4⟩
theorem mbX5_numberOf : mB μX5_numberOf 2 := ⟨wk42_1, wk1_21, ⟨by decide +kernel, by decide +kernel, by decide +kernel⟩, by decide⟩
theorem mvX5_numberOf : mVs μX5_numberOf 5 2 := ⟨mbX5_numberOf, by decide, rfl, wk41_23, wk42_0⟩
theorem mbX6_init : mB μX6_init 0 := ⟨wk4_11, wk2_10, ⟨by decide +kernel, by decide +kernel, by decide +kernel⟩, by decide⟩
theorem mbX6_copyFrom : mB μX6_copyFrom 1 := ⟨wk28_5, wk2_10, ⟨by decide +kernel, by decide +kernel, by decide +kernel⟩, by decide⟩
theorem mvX6_copyFrom : mVs μX6_copyFrom 6 1 := ⟨mbX6_copyFrom, by decide, rfl, wk28_3, wk28_4⟩
theorem mbX6_returnTo : mB μX6_returnTo 1 := ⟨wk28_9, wk2_10, ⟨by decide +kernel, by decide +kernel, by decide +kernel⟩, by decide⟩
theorem mvX6_returnTo : mVs μX6_returnTo 6 1 := ⟨mbX6_returnTo, by decide, rfl, wk28_7, wk28_8⟩
theorem mbX6_told : mB μX6_told 1 := ⟨wk27_14, wk2_10, ⟨by decide +kernel, by decide +kernel, by decide +kernel⟩, by decide⟩
theorem mvX6_told : mVs μX6_told 6 1 := ⟨mbX6_told, by decide, rfl, wk27_12, wk27_13⟩
theorem mbX6_isGone : mB μX6_isGone 1 := ⟨wk27_18, wk2_10, ⟨by decide +kernel, by decide +kernel, by decide +kernel⟩, by decide⟩
theorem mvX6_isGone : mVs μX6_isGone 6 1 := ⟨mbX6_isGone, by decide, rfl, wk27_16, wk27_17⟩
theorem mbX6_lives : mB μX6_lives 1 := ⟨wk27_10, wk2_10, ⟨by decide +kernel, by decide +kernel, by decide +kernel⟩, by decide⟩
theorem mvX6_lives : mVs μX6_lives 6 1 := ⟨mbX6_lives, by decide, rfl, wk27_8, wk27_9⟩
theorem mbX6_living : mB μX6_living 0 := ⟨wk30_0, wk2_10, ⟨by decide +kernel, by decide +kernel, by decide +kernel⟩, by decide⟩
theorem mvX6_living : mVs μX6_living 6 0 := ⟨mbX6_living, by decide, rfl, wk29_22, wk29_23⟩
theorem mbX6_date : mB μX6_date 0 := ⟨wk28_22, wk2_10, ⟨by decide +kernel, by decide +kernel, by decide +kernel⟩, by decide⟩
theorem mvX6_date : mVs μX6_date 6 0 := ⟨mbX6_date, by decide, rfl, wk28_20, wk28_21⟩
theorem mbX6_isShut : mB μX6_isShut 2 := ⟨wk29_2, wk2_10, ⟨by decide +kernel, by decide +kernel, by decide +kernel⟩, by decide⟩
theorem mvX6_isShut : mVs μX6_isShut 6 2 := ⟨mbX6_isShut, by decide, rfl, wk29_0, wk29_1⟩
theorem mbX6_shutOn : mB μX6_shutOn 1 := ⟨wk30_4, wk2_10, ⟨by decide +kernel, by decide +kernel, by decide +kernel⟩, by decide⟩
theorem mvX6_shutOn : mVs μX6_shutOn 6 1 := ⟨mbX6_shutOn, by decide, rfl, wk30_2, wk30_3⟩
theorem mbX6_openOn : mB μX6_openOn 1 := ⟨wk29_20, wk2_10, ⟨by decide +kernel, by decide +kernel, by decide +kernel⟩, by decide⟩
theorem mvX6_openOn : mVs μX6_openOn 6 1 := ⟨mbX6_openOn, by decide, rfl, wk29_18, wk29_19⟩
theorem mbX6_howManyShut : mB μX6_howManyShut 1 := ⟨wk48_3, wk2_10, ⟨by decide +kernel, by decide +kernel, by decide +kernel⟩, by decide⟩
theorem mvX6_howManyShut : mVs μX6_howManyShut 6 1 := ⟨mbX6_howManyShut, by decide, rfl, wk48_1, wk48_2⟩
theorem mbX6_settle : mB μX6_settle 3 := ⟨wk7_6, wk2_10, ⟨by decide +kernel, by decide +kernel, by decide +kernel⟩, by decide⟩
theorem mvX6_settle : mVs μX6_settle 6 3 := ⟨mbX6_settle, by decide, rfl, wk7_4, wk7_5⟩
theorem mbX6_befriend : mB μX6_befriend 2 := ⟨wk29_10, wk2_10, ⟨by decide +kernel, by decide +kernel, by decide +kernel⟩, by decide⟩
theorem mvX6_befriend : mVs μX6_befriend 6 2 := ⟨mbX6_befriend, by decide, rfl, wk29_8, wk29_9⟩
theorem mbX6_writeKnock : mB μX6_writeKnock 2 := ⟨wk29_6, wk2_10, ⟨by decide +kernel, by decide +kernel, by decide +kernel⟩, by decide⟩
theorem mvX6_writeKnock : mVs μX6_writeKnock 6 2 := ⟨mbX6_writeKnock, by decide, rfl, wk29_4, wk29_5⟩
theorem mbX6_dayOfKnock : mB μX6_dayOfKnock 1 := ⟨wk46_2, wk2_10, ⟨by decide +kernel, by decide +kernel, by decide +kernel⟩, by decide⟩
theorem mvX6_dayOfKnock : mVs μX6_dayOfKnock 6 1 := ⟨mbX6_dayOfKnock, by decide, rfl, wk46_0, wk46_1⟩
theorem mbX6_houseOfKnock : mB μX6_houseOfKnock 1 := ⟨wk46_6, wk2_10, ⟨by decide +kernel, by decide +kernel, by decide +kernel⟩, by decide⟩
theorem mvX6_houseOfKnock : mVs μX6_houseOfKnock 6 1 := ⟨mbX6_houseOfKnock, by decide, rfl, wk46_4, wk46_5⟩
theorem mbX6_wasShut : mB μX6_wasShut 1 := ⟨wk46_10, wk2_10, ⟨by decide +kernel, by decide +kernel, by decide +kernel⟩, by decide⟩
theorem mvX6_wasShut : mVs μX6_wasShut 6 1 := ⟨mbX6_wasShut, by decide, rfl, wk46_8, wk46_9⟩
theorem mbX6_howManyKnocks : mB μX6_howManyKnocks 2 := ⟨wk63_15, wk2_10, ⟨by decide +kernel, by decide +kernel, by decide +kernel⟩, by decide⟩
theorem mvX6_howManyKnocks : mVs μX6_howManyKnocks 6 2 := ⟨mbX6_howManyKnocks, by decide, rfl, wk63_13, wk63_14⟩
theorem mbX6_marriedDates : mB μX6_marriedDates 2 := ⟨wk36_11, wk2_10, ⟨by decide +kernel, by decide +kernel, by decide +kernel⟩, by decide⟩
theorem mvX6_marriedDates : mVs μX6_marriedDates 6 2 := ⟨mbX6_marriedDates, by decide, rfl, wk36_9, wk36_10⟩
theorem mbX6_join : mB μX6_join 3 := ⟨wk36_17, wk2_10, ⟨by decide +kernel, by decide +kernel, by decide +kernel⟩, by decide⟩
theorem mvX6_join : mVs μX6_join 6 3 := ⟨mbX6_join, by decide, rfl, wk36_15, wk36_16⟩
theorem mbX6_drawX : mB μX6_drawX 0 := ⟨wk37_14, wk2_10, ⟨by decide +kernel, by decide +kernel, by decide +kernel⟩, by decide⟩
theorem mvX6_drawX : mVs μX6_drawX 6 0 := ⟨mbX6_drawX, by decide, rfl, wk37_12, wk37_13⟩
theorem mbX6_canDraw : mB μX6_canDraw 1 := ⟨wk37_5, wk2_10, ⟨by decide +kernel, by decide +kernel, by decide +kernel⟩, by decide⟩
theorem mvX6_canDraw : mVs μX6_canDraw 6 1 := ⟨mbX6_canDraw, by decide, rfl, wk37_3, wk37_4⟩
theorem mbX6_drawDate : mB μX6_drawDate 1 := ⟨wk37_9, wk2_10, ⟨by decide +kernel, by decide +kernel, by decide +kernel⟩, by decide⟩
theorem mvX6_drawDate : mVs μX6_drawDate 6 1 := ⟨mbX6_drawDate, by decide, rfl, wk37_7, wk37_8⟩
theorem mbX6_canForget : mB μX6_canForget 2 := ⟨wk38_18, wk2_10, ⟨by decide +kernel, by decide +kernel, by decide +kernel⟩, by decide⟩
theorem mvX6_canForget : mVs μX6_canForget 6 2 := ⟨mbX6_canForget, by decide, rfl, wk38_16, wk38_17⟩
theorem mbX6_dropDate : mB μX6_dropDate 2 := ⟨wk38_22, wk2_10, ⟨by decide +kernel, by decide +kernel, by decide +kernel⟩, by decide⟩
theorem mvX6_dropDate : mVs μX6_dropDate 6 2 := ⟨mbX6_dropDate, by decide, rfl, wk38_20, wk38_21⟩
theorem mbX6_guestsOn : mB μX6_guestsOn 1 := ⟨wk49_3, wk2_10, ⟨by decide +kernel, by decide +kernel, by decide +kernel⟩, by decide⟩
theorem mvX6_guestsOn : mVs μX6_guestsOn 6 1 := ⟨mbX6_guestsOn, by decide, rfl, wk49_1, wk49_2⟩
theorem mbX6_datesBut : mB μX6_datesBut 1 := ⟨wk49_20, wk2_10, ⟨by decide +kernel, by decide +kernel, by decide +kernel⟩, by decide⟩
theorem mvX6_datesBut : mVs μX6_datesBut 6 1 := ⟨mbX6_datesBut, by decide, rfl, wk49_18, wk49_19⟩
theorem mbX6_allOpenOnce : mB μX6_allOpenOnce 1 := ⟨wk58_3, wk2_10, ⟨by decide +kernel, by decide +kernel, by decide +kernel⟩, by decide⟩
theorem mvX6_allOpenOnce : mVs μX6_allOpenOnce 6 1 := ⟨mbX6_allOpenOnce, by decide, rfl, wk58_1, wk58_2⟩
theorem mbX6_loot : mB μX6_loot 3 := ⟨wk55_14, wk2_10, ⟨by decide +kernel, by decide +kernel, by decide +kernel⟩, by decide⟩
theorem mvX6_loot : mVs μX6_loot 6 3 := ⟨mbX6_loot, by decide, rfl, wk55_12, wk55_13⟩
theorem mbX6_robbedFirst : mB μX6_robbedFirst 2 := ⟨wk55_10, wk2_10, ⟨by decide +kernel, by decide +kernel, by decide +kernel⟩, by decide⟩
theorem mvX6_robbedFirst : mVs μX6_robbedFirst 6 2 := ⟨mbX6_robbedFirst, by decide, rfl, wk55_8, wk55_9⟩
theorem mbX6_wealth : mB μX6_wealth 0 := ⟨wk63_3, wk2_10, ⟨by decide +kernel, by decide +kernel, by decide +kernel⟩, by decide⟩
theorem mvX6_wealth : mVs μX6_wealth 6 0 := ⟨mbX6_wealth, by decide, rfl, wk63_1, wk63_2⟩
theorem mbX7_init : mB μX7_init 0 := ⟨wk3_23, wk2_5, ⟨by decide +kernel, by decide +kernel, by decide +kernel⟩, by decide⟩
theorem mbX7_copyFrom : mB μX7_copyFrom 1 := ⟨wk65_4, wk2_5, ⟨by decide +kernel, by decide +kernel, by decide +kernel⟩, by decide⟩
theorem mvX7_copyFrom : mVs μX7_copyFrom 7 1 := ⟨mbX7_copyFrom, by decide, rfl, wk65_2, wk65_3⟩
theorem mbX7_keepStep : mB μX7_keepStep 0 := ⟨wk27_23, wk2_5, ⟨by decide +kernel, by decide +kernel, by decide +kernel⟩, by decide⟩
theorem mvX7_keepStep : mVs μX7_keepStep 7 0 := ⟨mbX7_keepStep, by decide, rfl, wk27_21, wk27_22⟩
theorem mbX7_takeStepBack : mB μX7_takeStepBack 0 := ⟨wk44_6, wk2_5, ⟨by decide +kernel, by decide +kernel, by decide +kernel⟩, by decide⟩
theorem mvX7_takeStepBack : mVs μX7_takeStepBack 7 0 := ⟨mbX7_takeStepBack, by decide, rfl, wk44_4, wk44_5⟩
theorem mbX7_knowingNext : mB μX7_knowingNext 1 := ⟨wk61_9, wk2_5, ⟨by decide +kernel, by decide +kernel, by decide +kernel⟩, by decide⟩
theorem mvX7_knowingNext : mVs μX7_knowingNext 7 1 := ⟨mbX7_knowingNext, by decide, rfl, wk61_7, wk61_8⟩
theorem mbX8_init : mB μX8_init 0 := ⟨wk1_8, wk1_2, ⟨by decide +kernel, by decide +kernel, by decide +kernel⟩, by decide⟩
theorem mbX8_house : mB μX8_house 5 := ⟨wk6_10, wk1_2, ⟨by decide +kernel, by decide +kernel, by decide +kernel⟩, by decide⟩
theorem mvX8_house : mVs μX8_house 8 5 := ⟨mbX8_house, by decide, rfl, wk6_8, wk6_9⟩
theorem mbX8_feed : mB μX8_feed 5 := ⟨wk8_6, wk1_2, ⟨by decide +kernel, by decide +kernel, by decide +kernel⟩, by decide⟩
theorem mvX8_feed : mVs μX8_feed 8 5 := ⟨mbX8_feed, by decide, rfl, wk8_4, wk8_5⟩
theorem mbX8_end : mB μX8_end 1 := ⟨wk9_0, wk1_2, ⟨by decide +kernel, by decide +kernel, by decide +kernel⟩, by decide⟩
theorem mvX8_end : mVs μX8_end 8 1 := ⟨mbX8_end, by decide, rfl, wk8_22, wk8_23⟩
theorem mbX8_text : mB μX8_text 0 := ⟨wk9_8, wk1_2, ⟨by decide +kernel, by decide +kernel, by decide +kernel⟩, by decide⟩
theorem mvX8_text : mVs μX8_text 8 0 := ⟨mbX8_text, by decide, rfl, wk9_6, wk9_7⟩
theorem mbX8_fault : mB μX8_fault 1 := ⟨wk26_8, wk1_2, ⟨by decide +kernel, by decide +kernel, by decide +kernel⟩, by decide⟩
theorem mvX8_fault : mVs μX8_fault 8 1 := ⟨mbX8_fault, by decide, rfl, wk26_6, wk26_7⟩
theorem mbX8_by : mB μX8_by 1 := ⟨wk26_17, wk1_2, ⟨by decide +kernel, by decide +kernel, by decide +kernel⟩, by decide⟩
theorem mvX8_by : mVs μX8_by 8 1 := ⟨mbX8_by, by decide, rfl, wk26_15, wk26_16⟩
theorem mbX8_knock : mB μX8_knock 1 := ⟨wk27_6, wk1_2, ⟨by decide +kernel, by decide +kernel, by decide +kernel⟩, by decide⟩
theorem mvX8_knock : mVs μX8_knock 8 1 := ⟨mbX8_knock, by decide, rfl, wk27_4, wk27_5⟩
theorem mbX8_marry : mB μX8_marry 2 := ⟨wk36_7, wk1_2, ⟨by decide +kernel, by decide +kernel, by decide +kernel⟩, by decide⟩
theorem mvX8_marry : mVs μX8_marry 8 2 := ⟨mbX8_marry, by decide, rfl, wk36_5, wk36_6⟩
theorem mbX8_hat : mB μX8_hat 1 := ⟨wk37_1, wk1_2, ⟨by decide +kernel, by decide +kernel, by decide +kernel⟩, by decide⟩
theorem mvX8_hat : mVs μX8_hat 8 1 := ⟨mbX8_hat, by decide, rfl, wk36_23, wk37_0⟩
theorem mbX8_forget : mB μX8_forget 2 := ⟨wk38_14, wk1_2, ⟨by decide +kernel, by decide +kernel, by decide +kernel⟩, by decide⟩
theorem mvX8_forget : mVs μX8_forget 8 2 := ⟨mbX8_forget, by decide, rfl, wk38_12, wk38_13⟩
theorem mbX8_day : mB μX8_day 1 := ⟨wk39_15, wk1_2, ⟨by decide +kernel, by decide +kernel, by decide +kernel⟩, by decide⟩
theorem mvX8_day : mVs μX8_day 8 1 := ⟨mbX8_day, by decide, rfl, wk39_13, wk39_14⟩
theorem mbX8_played : mB μX8_played 1 := ⟨wk41_16, wk1_2, ⟨by decide +kernel, by decide +kernel, by decide +kernel⟩, by decide⟩
theorem mvX8_played : mVs μX8_played 8 1 := ⟨mbX8_played, by decide, rfl, wk41_14, wk41_15⟩
theorem mbX8_years : mB μX8_years 2 := ⟨wk43_7, wk1_2, ⟨by decide +kernel, by decide +kernel, by decide +kernel⟩, by decide⟩
theorem mvX8_years : mVs μX8_years 8 2 := ⟨mbX8_years, by decide, rfl, wk43_5, wk43_6⟩
theorem mbX8_undo : mB μX8_undo 0 := ⟨wk44_2, wk1_2, ⟨by decide +kernel, by decide +kernel, by decide +kernel⟩, by decide⟩
theorem mvX8_undo : mVs μX8_undo 8 0 := ⟨mbX8_undo, by decide, rfl, wk44_0, wk44_1⟩
theorem mbX8_of : mB μX8_of 2 := ⟨wk44_15, wk1_2, ⟨by decide +kernel, by decide +kernel, by decide +kernel⟩, by decide⟩
theorem mvX8_of : mVs μX8_of 8 2 := ⟨mbX8_of, by decide, rfl, wk44_13, wk44_14⟩
theorem mbX8_is : mB μX8_is 1 := ⟨wk45_11, wk1_2, ⟨by decide +kernel, by decide +kernel, by decide +kernel⟩, by decide⟩
theorem mvX8_is : mVs μX8_is 8 1 := ⟨mbX8_is, by decide, rfl, wk45_9, wk45_10⟩
theorem mbX8_book : mB μX8_book 2 := ⟨wk45_21, wk1_2, ⟨by decide +kernel, by decide +kernel, by decide +kernel⟩, by decide⟩
theorem mvX8_book : mVs μX8_book 8 2 := ⟨mbX8_book, by decide, rfl, wk45_19, wk45_20⟩
theorem mbX8_foretold : mB μX8_foretold 2 := ⟨wk46_22, wk1_2, ⟨by decide +kernel, by decide +kernel, by decide +kernel⟩, by decide⟩
theorem mvX8_foretold : mVs μX8_foretold 8 2 := ⟨mbX8_foretold, by decide, rfl, wk46_20, wk46_21⟩
theorem mbX8_indoors : mB μX8_indoors 1 := ⟨wk47_23, wk1_2, ⟨by decide +kernel, by decide +kernel, by decide +kernel⟩, by decide⟩
theorem mvX8_indoors : mVs μX8_indoors 8 1 := ⟨mbX8_indoors, by decide, rfl, wk47_21, wk47_22⟩
theorem mbX8_crowded : mB μX8_crowded 1 := ⟨wk48_15, wk1_2, ⟨by decide +kernel, by decide +kernel, by decide +kernel⟩, by decide⟩
theorem mvX8_crowded : mVs μX8_crowded 8 1 := ⟨mbX8_crowded, by decide, rfl, wk48_13, wk48_14⟩
theorem mbX8_feast : mB μX8_feast 1 := ⟨wk48_23, wk1_2, ⟨by decide +kernel, by decide +kernel, by decide +kernel⟩, by decide⟩
theorem mvX8_feast : mVs μX8_feast 8 1 := ⟨mbX8_feast, by decide, rfl, wk48_21, wk48_22⟩
theorem mbX8_alone : mB μX8_alone 0 := ⟨wk49_16, wk1_2, ⟨by decide +kernel, by decide +kernel, by decide +kernel⟩, by decide⟩
theorem mvX8_alone : mVs μX8_alone 8 0 := ⟨mbX8_alone, by decide, rfl, wk49_14, wk49_15⟩
theorem mbX8_nobodys : mB μX8_nobodys 0 := ⟨wk50_4, wk1_2, ⟨by decide +kernel, by decide +kernel, by decide +kernel⟩, by decide⟩
theorem mvX8_nobodys : mVs μX8_nobodys 8 0 := ⟨mbX8_nobodys, by decide, rfl, wk50_2, wk50_3⟩
theorem mbX8_poorest : mB μX8_poorest 1 := ⟨wk50_13, wk1_2, ⟨by decide +kernel, by decide +kernel, by decide +kernel⟩, by decide⟩
theorem mvX8_poorest : mVs μX8_poorest 8 1 := ⟨mbX8_poorest, by decide, rfl, wk50_11, wk50_12⟩
theorem mbX8_seen : mB μX8_seen 3 := ⟨wk50_21, wk1_2, ⟨by decide +kernel, by decide +kernel, by decide +kernel⟩, by decide⟩
theorem mvX8_seen : mVs μX8_seen 8 3 := ⟨mbX8_seen, by decide, rfl, wk50_19, wk50_20⟩
theorem mbX8_sets : mB μX8_sets 3 := ⟨wk51_9, wk1_2, ⟨by decide +kernel, by decide +kernel, by decide +kernel⟩, by decide⟩
theorem mvX8_sets : mVs μX8_sets 8 3 := ⟨mbX8_sets, by decide, rfl, wk51_7, wk51_8⟩
theorem mbX8_odds : mB μX8_odds 4 := ⟨wk54_1, wk1_2, ⟨by decide +kernel, by decide +kernel, by decide +kernel⟩, by decide⟩
theorem mvX8_odds : mVs μX8_odds 8 4 := ⟨mbX8_odds, by decide, rfl, wk53_23, wk54_0⟩
theorem mbX8_nextKnock : mB μX8_nextKnock 2 := ⟨wk54_16, wk1_2, ⟨by decide +kernel, by decide +kernel, by decide +kernel⟩, by decide⟩
theorem mvX8_nextKnock : mVs μX8_nextKnock 8 2 := ⟨mbX8_nextKnock, by decide, rfl, wk54_14, wk54_15⟩
theorem mbX8_thieves : mB μX8_thieves 3 := ⟨wk55_6, wk1_2, ⟨by decide +kernel, by decide +kernel, by decide +kernel⟩, by decide⟩
theorem mvX8_thieves : mVs μX8_thieves 8 3 := ⟨mbX8_thieves, by decide, rfl, wk55_4, wk55_5⟩
theorem mbX8_night : mB μX8_night 1 := ⟨wk56_5, wk1_2, ⟨by decide +kernel, by decide +kernel, by decide +kernel⟩, by decide⟩
theorem mvX8_night : mVs μX8_night 8 1 := ⟨mbX8_night, by decide, rfl, wk56_3, wk56_4⟩
theorem mbX8_appointments : mB μX8_appointments 2 := ⟨wk56_13, wk1_2, ⟨by decide +kernel, by decide +kernel, by decide +kernel⟩, by decide⟩
theorem mvX8_appointments : mVs μX8_appointments 8 2 := ⟨mbX8_appointments, by decide, rfl, wk56_11, wk56_12⟩
theorem mbX8_rounds : mB μX8_rounds 0 := ⟨wk57_23, wk1_2, ⟨by decide +kernel, by decide +kernel, by decide +kernel⟩, by decide⟩
theorem mvX8_rounds : mVs μX8_rounds 8 0 := ⟨mbX8_rounds, by decide, rfl, wk57_21, wk57_22⟩
theorem mbX8_weddings : mB μX8_weddings 1 := ⟨wk58_15, wk1_2, ⟨by decide +kernel, by decide +kernel, by decide +kernel⟩, by decide⟩
theorem mvX8_weddings : mVs μX8_weddings 8 1 := ⟨mbX8_weddings, by decide, rfl, wk58_13, wk58_14⟩
theorem mbX8_twins : mB μX8_twins 0 := ⟨wk60_10, wk1_2, ⟨by decide +kernel, by decide +kernel, by decide +kernel⟩, by decide⟩
theorem mvX8_twins : mVs μX8_twins 8 0 := ⟨mbX8_twins, by decide, rfl, wk60_8, wk60_9⟩
theorem mbX8_gossip : mB μX8_gossip 2 := ⟨wk60_18, wk1_2, ⟨by decide +kernel, by decide +kernel, by decide +kernel⟩, by decide⟩
theorem mvX8_gossip : mVs μX8_gossip 8 2 := ⟨mbX8_gossip, by decide, rfl, wk60_16, wk60_17⟩
theorem mbX8_knows : mB μX8_knows 2 := ⟨wk61_5, wk1_2, ⟨by decide +kernel, by decide +kernel, by decide +kernel⟩, by decide⟩
theorem mvX8_knows : mVs μX8_knows 8 2 := ⟨mbX8_knows, by decide, rfl, wk61_3, wk61_4⟩
theorem mbX8_never : mB μX8_never 1 := ⟨wk61_22, wk1_2, ⟨by decide +kernel, by decide +kernel, by decide +kernel⟩, by decide⟩
theorem mvX8_never : mVs μX8_never 8 1 := ⟨mbX8_never, by decide, rfl, wk61_20, wk61_21⟩
theorem mbX8_richest : mB μX8_richest 1 := ⟨wk62_6, wk1_2, ⟨by decide +kernel, by decide +kernel, by decide +kernel⟩, by decide⟩
theorem mvX8_richest : mVs μX8_richest 8 1 := ⟨mbX8_richest, by decide, rfl, wk62_4, wk62_5⟩
theorem mbX8_whose : mB μX8_whose 1 := ⟨wk62_23, wk1_2, ⟨by decide +kernel, by decide +kernel, by decide +kernel⟩, by decide⟩
theorem mvX8_whose : mVs μX8_whose 8 1 := ⟨mbX8_whose, by decide, rfl, wk62_21, wk62_22⟩
theorem mbX8_knocks : mB μX8_knocks 2 := ⟨wk63_11, wk1_2, ⟨by decide +kernel, by decide +kernel, by decide +kernel⟩, by decide⟩
theorem mvX8_knocks : mVs μX8_knocks 8 2 := ⟨mbX8_knocks, by decide, rfl, wk63_9, wk63_10⟩
theorem mbX8_offended : mB μX8_offended 0 := ⟨wk64_5, wk1_2, ⟨by decide +kernel, by decide +kernel, by decide +kernel⟩, by decide⟩
theorem mvX8_offended : mVs μX8_offended 8 0 := ⟨mbX8_offended, by decide, rfl, wk64_3, wk64_4⟩
theorem mbX8_leap : mB μX8_leap 2 := ⟨wk64_13, wk1_2, ⟨by decide +kernel, by decide +kernel, by decide +kernel⟩, by decide⟩
theorem mvX8_leap : mVs μX8_leap 8 2 := ⟨mbX8_leap, by decide, rfl, wk64_11, wk64_12⟩
theorem mbX8_image : mB μX8_image 0 := ⟨wk65_0, wk1_2, ⟨by decide +kernel, by decide +kernel, by decide +kernel⟩, by decide⟩
theorem mvX8_image : mVs μX8_image 8 0 := ⟨mbX8_image, by decide, rfl, wk64_22, wk64_23⟩
theorem mbX8_back : mB μX8_back 0 := ⟨wk65_15, wk1_2, ⟨by decide +kernel, by decide +kernel, by decide +kernel⟩, by decide⟩
theorem mvX8_back : mVs μX8_back 8 0 := ⟨mbX8_back, by decide, rfl, wk65_13, wk65_14⟩
theorem mbX8_about : mB μX8_about 1 := ⟨wk65_23, wk1_2, ⟨by decide +kernel, by decide +kernel, by decide +kernel⟩, by decide⟩
theorem mvX8_about : mVs μX8_about 8 1 := ⟨mbX8_about, by decide, rfl, wk65_21, wk65_22⟩
theorem mbX8_isWithin : mB μX8_isWithin 3 := ⟨wk6_20, wk1_2, ⟨by decide +kernel, by decide +kernel, by decide +kernel⟩, by decide⟩
theorem mbX8_isDate : mB μX8_isDate 1 := ⟨wk6_17, wk1_2, ⟨by decide +kernel, by decide +kernel, by decide +kernel⟩, by decide⟩
theorem mbX8_isDateOrNone : mB μX8_isDateOrNone 1 := ⟨wk6_14, wk1_2, ⟨by decide +kernel, by decide +kernel, by decide +kernel⟩, by decide⟩
theorem mbX8_isSameDate : mB μX8_isSameDate 2 := ⟨wk6_23, wk1_2, ⟨by decide +kernel, by decide +kernel, by decide +kernel⟩, by decide⟩
theorem mbX8_bitOf : mB μX8_bitOf 1 := ⟨wk7_2, wk1_2, ⟨by decide +kernel, by decide +kernel, by decide +kernel⟩, by decide⟩
theorem mbX8_commonDivisor : mB μX8_commonDivisor 2 := ⟨wk54_5, wk1_2, ⟨by decide +kernel, by decide +kernel, by decide +kernel⟩, by decide⟩
theorem mbX8_isText : mB μX8_isText 1 := ⟨wk26_22, wk1_2, ⟨by decide +kernel, by decide +kernel, by decide +kernel⟩, by decide⟩
theorem mvX8_isText : mVs μX8_isText 8 1 := ⟨mbX8_isText, by decide, rfl, wk26_20, wk26_21⟩
theorem mbX8_isGuess : mB μX8_isGuess 2 := ⟨wk51_14, wk1_2, ⟨by decide +kernel, by decide +kernel, by decide +kernel⟩, by decide⟩
theorem mvX8_isGuess : mVs μX8_isGuess 8 2 := ⟨mbX8_isGuess, by decide, rfl, wk51_12, wk51_13⟩
theorem mbX8_rule : mB μX8_rule 0 := ⟨wk30_15, wk1_2, ⟨by decide +kernel, by decide +kernel, by decide +kernel⟩, by decide⟩
theorem mvX8_rule : mVs μX8_rule 8 0 := ⟨mbX8_rule, by decide, rfl, wk30_13, wk30_14⟩
theorem mbX8_appendBytes : mB μX8_appendBytes 1 := ⟨wk8_11, wk1_2, ⟨by decide +kernel, by decide +kernel, by decide +kernel⟩, by decide⟩
theorem mvX8_appendBytes : mVs μX8_appendBytes 8 1 := ⟨mbX8_appendBytes, by decide, rfl, wk8_9, wk8_10⟩
theorem mbX8_underTheLaw : mB μX8_underTheLaw 2 := ⟨wk45_0, wk1_2, ⟨by decide +kernel, by decide +kernel, by decide +kernel⟩, by decide⟩
theorem mvX8_underTheLaw : mVs μX8_underTheLaw 8 2 := ⟨mbX8_underTheLaw, by decide, rfl, wk44_22, wk44_23⟩
theorem mbX8_knockAt : mB μX8_knockAt 1 := ⟨wk28_17, wk1_2, ⟨by decide +kernel, by decide +kernel, by decide +kernel⟩, by decide⟩
theorem mvX8_knockAt : mVs μX8_knockAt 8 1 := ⟨mbX8_knockAt, by decide, rfl, wk28_15, wk28_16⟩
theorem mbX8_passDays : mB μX8_passDays 1 := ⟨wk39_19, wk1_2, ⟨by decide +kernel, by decide +kernel, by decide +kernel⟩, by decide⟩
theorem mvX8_passDays : mVs μX8_passDays 8 1 := ⟨mbX8_passDays, by decide, rfl, wk39_17, wk39_18⟩
theorem mbX8_tryDays : mB μX8_tryDays 2 := ⟨wk47_2, wk1_2, ⟨by decide +kernel, by decide +kernel, by decide +kernel⟩, by decide⟩
theorem mvX8_tryDays : mVs μX8_tryDays 8 2 := ⟨mbX8_tryDays, by decide, rfl, wk47_0, wk47_1⟩
theorem mbX8_isCarriedOut : mB μX8_isCarriedOut 2 := ⟨wk41_21, wk1_2, ⟨by decide +kernel, by decide +kernel, by decide +kernel⟩, by decide⟩
theorem mvX8_isCarriedOut : mVs μX8_isCarriedOut 8 2 := ⟨mbX8_isCarriedOut, by decide, rfl, wk41_19, wk41_20⟩
theorem mbX8_isHatPassed : mB μX8_isHatPassed 1 := ⟨wk42_12, wk1_2, ⟨by decide +kernel, by decide +kernel, by decide +kernel⟩, by decide⟩
theorem mvX8_isHatPassed : mVs μX8_isHatPassed 8 1 := ⟨mbX8_isHatPassed, by decide, rfl, wk42_10, wk42_11⟩
theorem mbX8_takeTurn : mB μX8_takeTurn 0 := ⟨wk43_13, wk1_2, ⟨by decide +kernel, by decide +kernel, by decide +kernel⟩, by decide⟩
theorem mvX8_takeTurn : mVs μX8_takeTurn 8 0 := ⟨mbX8_takeTurn, by decide, rfl, wk43_11, wk43_12⟩
theorem mbX8_earnedOn : mB μX8_earnedOn 1 := ⟨wk62_10, wk1_2, ⟨by decide +kernel, by decide +kernel, by decide +kernel⟩, by decide⟩
theorem mvX8_earnedOn : mVs μX8_earnedOn 8 1 := ⟨mbX8_earnedOn, by decide, rfl, wk62_8, wk62_9⟩
theorem mbX9_init : mB μX9_init 0 := ⟨wk5_8, wk1_5, ⟨by decide +kernel, by decide +kernel, by decide +kernel⟩, by decide⟩
theorem mbX9_copy : mB μX9_copy 2 := ⟨wk6_6, wk1_5, ⟨by decide +kernel, by decide +kernel, by decide +kernel⟩, by decide⟩
theorem mbX9_isIn : mB μX9_isIn 3 := ⟨wk7_14, wk1_5, ⟨by decide +kernel, by decide +kernel, by decide +kernel⟩, by decide⟩
theorem mbX9_cut : mB μX9_cut 3 := ⟨wk36_3, wk1_5, ⟨by decide +kernel, by decide +kernel, by decide +kernel⟩, by decide⟩
theorem mbX9_has : mB μX9_has 2 := ⟨wk22_13, wk1_5, ⟨by decide +kernel, by decide +kernel, by decide +kernel⟩, by decide⟩
theorem mbX9_bits : mB μX9_bits 1 := ⟨wk34_10, wk1_5, ⟨by decide +kernel, by decide +kernel, by decide +kernel⟩, by decide⟩
theorem mbX9_isHouse : mB μX9_isHouse 1 := ⟨wk33_3, wk1_5, ⟨by decide +kernel, by decide +kernel, by decide +kernel⟩, by decide⟩
theorem mvX9_isHouse : mVs μX9_isHouse 9 1 := ⟨mbX9_isHouse, by decide, rfl, wk33_1, wk33_2⟩
theorem mbX9_get : mB μX9_get 2 := ⟨wk8_2, wk1_5, ⟨by decide +kernel, by decide +kernel, by decide +kernel⟩, by decide⟩
theorem mvX9_get : mVs μX9_get 9 2 := ⟨mbX9_get, by decide, rfl, wk8_0, wk8_1⟩
theorem mbX9_put : mB μX9_put 3 := ⟨wk7_18, wk1_5, ⟨by decide +kernel, by decide +kernel, by decide +kernel⟩, by decide⟩
theorem mvX9_put : mVs μX9_put 9 3 := ⟨mbX9_put, by decide, rfl, wk7_16, wk7_17⟩
theorem mbX9_isHere : mB μX9_isHere 1 := ⟨wk32_23, wk1_5, ⟨by decide +kernel, by decide +kernel, by decide +kernel⟩, by decide⟩
theorem mvX9_isHere : mVs μX9_isHere 9 1 := ⟨mbX9_isHere, by decide, rfl, wk32_21, wk32_22⟩
theorem mbX9_isOpen : mB μX9_isOpen 2 := ⟨wk34_18, wk1_5, ⟨by decide +kernel, by decide +kernel, by decide +kernel⟩, by decide⟩
theorem mvX9_isOpen : mVs μX9_isOpen 9 2 := ⟨mbX9_isOpen, by decide, rfl, wk34_16, wk34_17⟩
theorem mbX9_date : mB μX9_date 0 := ⟨wk33_15, wk1_5, ⟨by decide +kernel, by decide +kernel, by decide +kernel⟩, by decide⟩
theorem mvX9_date : mVs μX9_date 9 0 := ⟨mbX9_date, by decide, rfl, wk33_13, wk33_14⟩
theorem mbX9_house : mB μX9_house 5 := ⟨wk7_11, wk1_5, ⟨by decide +kernel, by decide +kernel, by decide +kernel⟩, by decide⟩
theorem mvX9_house : mVs μX9_house 9 5 := ⟨mbX9_house, by decide, rfl, wk7_9, wk7_10⟩
theorem mbX9_begin : mB μX9_begin 1 := ⟨wk7_22, wk1_5, ⟨by decide +kernel, by decide +kernel, by decide +kernel⟩, by decide⟩
theorem mvX9_begin : mVs μX9_begin 9 1 := ⟨mbX9_begin, by decide, rfl, wk7_20, wk7_21⟩
theorem mbX9_four : mB μX9_four 1 := ⟨wk8_20, wk1_5, ⟨by decide +kernel, by decide +kernel, by decide +kernel⟩, by decide⟩
theorem mvX9_four : mVs μX9_four 9 1 := ⟨mbX9_four, by decide, rfl, wk8_18, wk8_19⟩
theorem mbX9_feed : mB μX9_feed 5 := ⟨wk8_15, wk1_5, ⟨by decide +kernel, by decide +kernel, by decide +kernel⟩, by decide⟩
theorem mvX9_feed : mVs μX9_feed 9 5 := ⟨mbX9_feed, by decide, rfl, wk8_13, wk8_14⟩
theorem mbX9_end : mB μX9_end 1 := ⟨wk9_4, wk1_5, ⟨by decide +kernel, by decide +kernel, by decide +kernel⟩, by decide⟩
theorem mvX9_end : mVs μX9_end 9 1 := ⟨mbX9_end, by decide, rfl, wk9_2, wk9_3⟩
theorem mbX9_byteAt : mB μX9_byteAt 1 := ⟨wk20_21, wk1_5, ⟨by decide +kernel, by decide +kernel, by decide +kernel⟩, by decide⟩
theorem mvX9_byteAt : mVs μX9_byteAt 9 1 := ⟨mbX9_byteAt, by decide, rfl, wk20_19, wk20_20⟩
theorem mbX9_isLetterByte : mB μX9_isLetterByte 1 := ⟨wk21_3, wk1_5, ⟨by decide +kernel, by decide +kernel, by decide +kernel⟩, by decide⟩
theorem mbX9_isFigure : mB μX9_isFigure 1 := ⟨wk21_0, wk1_5, ⟨by decide +kernel, by decide +kernel, by decide +kernel⟩, by decide⟩
theorem mbX9_isSign : mB μX9_isSign 1 := ⟨wk21_6, wk1_5, ⟨by decide +kernel, by decide +kernel, by decide +kernel⟩, by decide⟩
theorem mbX9_nextToken : mB μX9_nextToken 0 := ⟨wk20_13, wk1_5, ⟨by decide +kernel, by decide +kernel, by decide +kernel⟩, by decide⟩
theorem mvX9_nextToken : mVs μX9_nextToken 9 0 := ⟨mbX9_nextToken, by decide, rfl, wk20_11, wk20_12⟩
theorem mbX9_w2 : mB μX9_w2 2 := ⟨wk22_3, wk1_5, ⟨by decide +kernel, by decide +kernel, by decide +kernel⟩, by decide⟩
theorem mbX9_w3 : mB μX9_w3 3 := ⟨wk22_0, wk1_5, ⟨by decide +kernel, by decide +kernel, by decide +kernel⟩, by decide⟩
theorem mbX9_w4 : mB μX9_w4 4 := ⟨wk21_21, wk1_5, ⟨by decide +kernel, by decide +kernel, by decide +kernel⟩, by decide⟩
theorem mbX9_w5 : mB μX9_w5 5 := ⟨wk21_18, wk1_5, ⟨by decide +kernel, by decide +kernel, by decide +kernel⟩, by decide⟩
theorem mbX9_w6 : mB μX9_w6 6 := ⟨wk22_10, wk1_5, ⟨by decide +kernel, by decide +kernel, by decide +kernel⟩, by decide⟩
theorem mbX9_isWord : mB μX9_isWord 1 := ⟨wk22_7, wk1_5, ⟨by decide +kernel, by decide +kernel, by decide +kernel⟩, by decide⟩
theorem mvX9_isWord : mVs μX9_isWord 9 1 := ⟨mbX9_isWord, by decide, rfl, wk22_5, wk22_6⟩
theorem mbX9_emit : mB μX9_emit 2 := ⟨wk25_8, wk1_5, ⟨by decide +kernel, by decide +kernel, by decide +kernel⟩, by decide⟩
theorem mvX9_emit : mVs μX9_emit 9 2 := ⟨mbX9_emit, by decide, rfl, wk25_6, wk25_7⟩
theorem mbX9_isLong : mB μX9_isLong 2 := ⟨wk23_13, wk1_5, ⟨by decide +kernel, by decide +kernel, by decide +kernel⟩, by decide⟩
theorem mvX9_isLong : mVs μX9_isLong 9 2 := ⟨mbX9_isLong, by decide, rfl, wk23_11, wk23_12⟩
theorem mbX9_isFriends : mB μX9_isFriends 0 := ⟨wk23_9, wk1_5, ⟨by decide +kernel, by decide +kernel, by decide +kernel⟩, by decide⟩
theorem mvX9_isFriends : mVs μX9_isFriends 9 0 := ⟨mbX9_isFriends, by decide, rfl, wk23_7, wk23_8⟩
theorem mbX9_nameOf : mB μX9_nameOf 0 := ⟨wk25_20, wk1_5, ⟨by decide +kernel, by decide +kernel, by decide +kernel⟩, by decide⟩
theorem mvX9_nameOf : mVs μX9_nameOf 9 0 := ⟨mbX9_nameOf, by decide, rfl, wk25_18, wk25_19⟩
theorem mbX9_rank : mB μX9_rank 1 := ⟨wk24_20, wk1_5, ⟨by decide +kernel, by decide +kernel, by decide +kernel⟩, by decide⟩
theorem mbX9_settle : mB μX9_settle 1 := ⟨wk25_4, wk1_5, ⟨by decide +kernel, by decide +kernel, by decide +kernel⟩, by decide⟩
theorem mvX9_settle : mVs μX9_settle 9 1 := ⟨mbX9_settle, by decide, rfl, wk25_2, wk25_3⟩
theorem mbX9_isShut : mB μX9_isShut 0 := ⟨wk24_13, wk1_5, ⟨by decide +kernel, by decide +kernel, by decide +kernel⟩, by decide⟩
theorem mvX9_isShut : mVs μX9_isShut 9 0 := ⟨mbX9_isShut, by decide, rfl, wk24_11, wk24_12⟩
theorem mbX9_isCompared : mB μX9_isCompared 0 := ⟨wk24_17, wk1_5, ⟨by decide +kernel, by decide +kernel, by decide +kernel⟩, by decide⟩
theorem mvX9_isCompared : mVs μX9_isCompared 9 0 := ⟨mbX9_isCompared, by decide, rfl, wk24_15, wk24_16⟩
theorem mbX9_isAskAhead : mB μX9_isAskAhead 0 := ⟨wk26_4, wk1_5, ⟨by decide +kernel, by decide +kernel, by decide +kernel⟩, by decide⟩
theorem mvX9_isAskAhead : mVs μX9_isAskAhead 9 0 := ⟨mbX9_isAskAhead, by decide, rfl, wk26_2, wk26_3⟩
theorem mbX9_opened : mB μX9_opened 1 := ⟨wk26_0, wk1_5, ⟨by decide +kernel, by decide +kernel, by decide +kernel⟩, by decide⟩
theorem mvX9_opened : mVs μX9_opened 9 1 := ⟨mbX9_opened, by decide, rfl, wk25_22, wk25_23⟩
theorem mbX9_beginOne : mB μX9_beginOne 0 := ⟨wk25_16, wk1_5, ⟨by decide +kernel, by decide +kernel, by decide +kernel⟩, by decide⟩
theorem mvX9_beginOne : mVs μX9_beginOne 9 0 := ⟨mbX9_beginOne, by decide, rfl, wk25_14, wk25_15⟩
theorem mbX9_endOne : mB μX9_endOne 0 := ⟨wk25_12, wk1_5, ⟨by decide +kernel, by decide +kernel, by decide +kernel⟩, by decide⟩
theorem mvX9_endOne : mVs μX9_endOne 9 0 := ⟨mbX9_endOne, by decide, rfl, wk25_10, wk25_11⟩
theorem mbX9_compareOf : mB μX9_compareOf 0 := ⟨wk25_0, wk1_5, ⟨by decide +kernel, by decide +kernel, by decide +kernel⟩, by decide⟩
theorem mvX9_compareOf : mVs μX9_compareOf 9 0 := ⟨mbX9_compareOf, by decide, rfl, wk24_22, wk24_23⟩
theorem mbX9_betweenOf : mB μX9_betweenOf 0 := ⟨wk24_9, wk1_5, ⟨by decide +kernel, by decide +kernel, by decide +kernel⟩, by decide⟩
theorem mvX9_betweenOf : mVs μX9_betweenOf 9 0 := ⟨mbX9_betweenOf, by decide, rfl, wk24_7, wk24_8⟩
theorem mbX9_behindOne : mB μX9_behindOne 0 := ⟨wk24_5, wk1_5, ⟨by decide +kernel, by decide +kernel, by decide +kernel⟩, by decide⟩
theorem mvX9_behindOne : mVs μX9_behindOne 9 0 := ⟨mbX9_behindOne, by decide, rfl, wk24_3, wk24_4⟩
theorem mbX9_parsed : mB μX9_parsed 1 := ⟨wk23_21, wk1_5, ⟨by decide +kernel, by decide +kernel, by decide +kernel⟩, by decide⟩
theorem mvX9_parsed : mVs μX9_parsed 9 1 := ⟨mbX9_parsed, by decide, rfl, wk23_19, wk23_20⟩
theorem mbX9_figure : mB μX9_figure 3 := ⟨wk23_1, wk1_5, ⟨by decide +kernel, by decide +kernel, by decide +kernel⟩, by decide⟩
theorem mvX9_figure : mVs μX9_figure 9 3 := ⟨mbX9_figure, by decide, rfl, wk22_23, wk23_0⟩
theorem mbX9_worded : mB μX9_worded 3 := ⟨wk23_5, wk1_5, ⟨by decide +kernel, by decide +kernel, by decide +kernel⟩, by decide⟩
theorem mvX9_worded : mVs μX9_worded 9 3 := ⟨mbX9_worded, by decide, rfl, wk23_3, wk23_4⟩
theorem mbX9_lawClause : mB μX9_lawClause 2 := ⟨wk23_17, wk1_5, ⟨by decide +kernel, by decide +kernel, by decide +kernel⟩, by decide⟩
theorem mvX9_lawClause : mVs μX9_lawClause 9 2 := ⟨mbX9_lawClause, by decide, rfl, wk23_15, wk23_16⟩
theorem mbX9_houseClause : mB μX9_houseClause 1 := ⟨wk22_21, wk1_5, ⟨by decide +kernel, by decide +kernel, by decide +kernel⟩, by decide⟩
theorem mvX9_houseClause : mVs μX9_houseClause 9 1 := ⟨mbX9_houseClause, by decide, rfl, wk22_19, wk22_20⟩
theorem mbX9_body : mB μX9_body 2 := ⟨wk22_17, wk1_5, ⟨by decide +kernel, by decide +kernel, by decide +kernel⟩, by decide⟩
theorem mvX9_body : mVs μX9_body 9 2 := ⟨mbX9_body, by decide, rfl, wk22_15, wk22_16⟩
theorem mbX9_sortOf : mB μX9_sortOf 0 := ⟨wk21_15, wk1_5, ⟨by decide +kernel, by decide +kernel, by decide +kernel⟩, by decide⟩
theorem mvX9_sortOf : mVs μX9_sortOf 9 0 := ⟨mbX9_sortOf, by decide, rfl, wk21_13, wk21_14⟩
theorem mbX9_clause : mB μX9_clause 0 := ⟨wk21_10, wk1_5, ⟨by decide +kernel, by decide +kernel, by decide +kernel⟩, by decide⟩
theorem mvX9_clause : mVs μX9_clause 9 0 := ⟨mbX9_clause, by decide, rfl, wk21_8, wk21_9⟩
theorem mbX9_readText : mB μX9_readText 0 := ⟨wk20_4, wk1_5, ⟨by decide +kernel, by decide +kernel, by decide +kernel⟩, by decide⟩
theorem mvX9_readText : mVs μX9_readText 9 0 := ⟨mbX9_readText, by decide, rfl, wk20_2, wk20_3⟩
theorem mbX9_text : mB μX9_text 0 := ⟨wk19_23, wk1_5, ⟨by decide +kernel, by decide +kernel, by decide +kernel⟩, by decide⟩
theorem mvX9_text : mVs μX9_text 9 0 := ⟨mbX9_text, by decide, rfl, wk19_21, wk19_22⟩
theorem mbX9_fault : mB μX9_fault 1 := ⟨wk26_13, wk1_5, ⟨by decide +kernel, by decide +kernel, by decide +kernel⟩, by decide⟩
theorem mvX9_fault : mVs μX9_fault 9 1 := ⟨mbX9_fault, by decide, rfl, wk26_11, wk26_12⟩
theorem mbX9_by : mB μX9_by 1 := ⟨wk27_2, wk1_5, ⟨by decide +kernel, by decide +kernel, by decide +kernel⟩, by decide⟩
theorem mvX9_by : mVs μX9_by 9 1 := ⟨mbX9_by, by decide, rfl, wk27_0, wk27_1⟩
theorem mbX9_clip : mB μX9_clip 1 := ⟨wk35_13, wk1_5, ⟨by decide +kernel, by decide +kernel, by decide +kernel⟩, by decide⟩
theorem mbX9_two : mB μX9_two 3 := ⟨wk35_10, wk1_5, ⟨by decide +kernel, by decide +kernel, by decide +kernel⟩, by decide⟩
theorem mbX9_isAsked : mB μX9_isAsked 3 := ⟨wk35_21, wk1_5, ⟨by decide +kernel, by decide +kernel, by decide +kernel⟩, by decide⟩
theorem mbX9_digit : mB μX9_digit 2 := ⟨wk35_5, wk1_5, ⟨by decide +kernel, by decide +kernel, by decide +kernel⟩, by decide⟩
theorem mbX9_isDividing : mB μX9_isDividing 2 := ⟨wk35_18, wk1_5, ⟨by decide +kernel, by decide +kernel, by decide +kernel⟩, by decide⟩
theorem mbX9_joined : mB μX9_joined 3 := ⟨wk36_0, wk1_5, ⟨by decide +kernel, by decide +kernel, by decide +kernel⟩, by decide⟩
theorem mbX9_work : mB μX9_work 1 := ⟨wk35_2, wk1_5, ⟨by decide +kernel, by decide +kernel, by decide +kernel⟩, by decide⟩
theorem mvX9_work : mVs μX9_work 9 1 := ⟨mbX9_work, by decide, rfl, wk35_0, wk35_1⟩
theorem mbX9_clauseOf : mB μX9_clauseOf 1 := ⟨wk34_3, wk1_5, ⟨by decide +kernel, by decide +kernel, by decide +kernel⟩, by decide⟩
theorem mvX9_clauseOf : mVs μX9_clauseOf 9 1 := ⟨mbX9_clauseOf, by decide, rfl, wk34_1, wk34_2⟩
theorem mbX9_says : mB μX9_says 2 := ⟨wk41_8, wk1_5, ⟨by decide +kernel, by decide +kernel, by decide +kernel⟩, by decide⟩
theorem mvX9_says : mVs μX9_says 9 2 := ⟨mbX9_says, by decide, rfl, wk41_6, wk41_7⟩
theorem mbX9_openOn : mB μX9_openOn 1 := ⟨wk34_14, wk1_5, ⟨by decide +kernel, by decide +kernel, by decide +kernel⟩, by decide⟩
theorem mvX9_openOn : mVs μX9_openOn 9 1 := ⟨mbX9_openOn, by decide, rfl, wk34_12, wk34_13⟩
theorem mbX9_besideOn : mB μX9_besideOn 2 := ⟨wk34_22, wk1_5, ⟨by decide +kernel, by decide +kernel, by decide +kernel⟩, by decide⟩
theorem mvX9_besideOn : mVs μX9_besideOn 9 2 := ⟨mbX9_besideOn, by decide, rfl, wk34_20, wk34_21⟩
theorem mbX9_name : mB μX9_name 2 := ⟨wk34_7, wk1_5, ⟨by decide +kernel, by decide +kernel, by decide +kernel⟩, by decide⟩
theorem mvX9_name : mVs μX9_name 9 2 := ⟨mbX9_name, by decide, rfl, wk34_5, wk34_6⟩
theorem mbX9_earnsOn : mB μX9_earnsOn 2 := ⟨wk41_12, wk1_5, ⟨by decide +kernel, by decide +kernel, by decide +kernel⟩, by decide⟩
theorem mvX9_earnsOn : mVs μX9_earnsOn 9 2 := ⟨mbX9_earnsOn, by decide, rfl, wk41_10, wk41_11⟩
theorem mbX9_losesOf : mB μX9_losesOf 1 := ⟨wk41_4, wk1_5, ⟨by decide +kernel, by decide +kernel, by decide +kernel⟩, by decide⟩
theorem mvX9_losesOf : mVs μX9_losesOf 9 1 := ⟨mbX9_losesOf, by decide, rfl, wk41_2, wk41_3⟩
theorem mbX9_isLetting : mB μX9_isLetting 1 := ⟨wk33_23, wk1_5, ⟨by decide +kernel, by decide +kernel, by decide +kernel⟩, by decide⟩
theorem mvX9_isLetting : mVs μX9_isLetting 9 1 := ⟨mbX9_isLetting, by decide, rfl, wk33_21, wk33_22⟩
theorem mbX9_pass : mB μX9_pass 0 := ⟨wk41_0, wk1_5, ⟨by decide +kernel, by decide +kernel, by decide +kernel⟩, by decide⟩
theorem mvX9_pass : mVs μX9_pass 9 0 := ⟨mbX9_pass, by decide, rfl, wk40_22, wk40_23⟩
theorem mbX9_keep : mB μX9_keep 0 := ⟨wk33_7, wk1_5, ⟨by decide +kernel, by decide +kernel, by decide +kernel⟩, by decide⟩
theorem mvX9_keep : mVs μX9_keep 9 0 := ⟨mbX9_keep, by decide, rfl, wk33_5, wk33_6⟩
theorem mbX9_undo : mB μX9_undo 0 := ⟨wk44_11, wk1_5, ⟨by decide +kernel, by decide +kernel, by decide +kernel⟩, by decide⟩
theorem mvX9_undo : mVs μX9_undo 9 0 := ⟨mbX9_undo, by decide, rfl, wk44_9, wk44_10⟩
theorem mbX9_write : mB μX9_write 2 := ⟨wk33_19, wk1_5, ⟨by decide +kernel, by decide +kernel, by decide +kernel⟩, by decide⟩
theorem mvX9_write : mVs μX9_write 9 2 := ⟨mbX9_write, by decide, rfl, wk33_17, wk33_18⟩
theorem mbX9_knockNow : mB μX9_knockNow 1 := ⟨wk33_11, wk1_5, ⟨by decide +kernel, by decide +kernel, by decide +kernel⟩, by decide⟩
theorem mvX9_knockNow : mVs μX9_knockNow 9 1 := ⟨mbX9_knockNow, by decide, rfl, wk33_9, wk33_10⟩
theorem mbX9_knock : mB μX9_knock 1 := ⟨wk32_19, wk1_5, ⟨by decide +kernel, by decide +kernel, by decide +kernel⟩, by decide⟩
theorem mvX9_knock : mVs μX9_knock 9 1 := ⟨mbX9_knock, by decide, rfl, wk32_17, wk32_18⟩
theorem mbX9_marry : mB μX9_marry 2 := ⟨wk36_21, wk1_5, ⟨by decide +kernel, by decide +kernel, by decide +kernel⟩, by decide⟩
theorem mvX9_marry : mVs μX9_marry 9 2 := ⟨mbX9_marry, by decide, rfl, wk36_19, wk36_20⟩
theorem mbX9_canDraw : mB μX9_canDraw 1 := ⟨wk37_23, wk1_5, ⟨by decide +kernel, by decide +kernel, by decide +kernel⟩, by decide⟩
theorem mvX9_canDraw : mVs μX9_canDraw 9 1 := ⟨mbX9_canDraw, by decide, rfl, wk37_21, wk37_22⟩
theorem mbX9_anew : mB μX9_anew 0 := ⟨wk38_7, wk1_5, ⟨by decide +kernel, by decide +kernel, by decide +kernel⟩, by decide⟩
theorem mvX9_anew : mVs μX9_anew 9 0 := ⟨mbX9_anew, by decide, rfl, wk38_5, wk38_6⟩
theorem mbX9_hatNow : mB μX9_hatNow 1 := ⟨wk38_3, wk1_5, ⟨by decide +kernel, by decide +kernel, by decide +kernel⟩, by decide⟩
theorem mvX9_hatNow : mVs μX9_hatNow 9 1 := ⟨mbX9_hatNow, by decide, rfl, wk38_1, wk38_2⟩
theorem mbX9_hat : mB μX9_hat 1 := ⟨wk37_19, wk1_5, ⟨by decide +kernel, by decide +kernel, by decide +kernel⟩, by decide⟩
theorem mvX9_hat : mVs μX9_hat 9 1 := ⟨mbX9_hat, by decide, rfl, wk37_17, wk37_18⟩
theorem mbX9_canForget : mB μX9_canForget 2 := ⟨wk39_7, wk1_5, ⟨by decide +kernel, by decide +kernel, by decide +kernel⟩, by decide⟩
theorem mvX9_canForget : mVs μX9_canForget 9 2 := ⟨mbX9_canForget, by decide, rfl, wk39_5, wk39_6⟩
theorem mbX9_forgetNow : mB μX9_forgetNow 2 := ⟨wk39_11, wk1_5, ⟨by decide +kernel, by decide +kernel, by decide +kernel⟩, by decide⟩
theorem mvX9_forgetNow : mVs μX9_forgetNow 9 2 := ⟨mbX9_forgetNow, by decide, rfl, wk39_9, wk39_10⟩
theorem mbX9_forget : mB μX9_forget 2 := ⟨wk39_3, wk1_5, ⟨by decide +kernel, by decide +kernel, by decide +kernel⟩, by decide⟩
theorem mvX9_forget : mVs μX9_forget 9 2 := ⟨mbX9_forget, by decide, rfl, wk39_1, wk39_2⟩
theorem mbX9_arePassed : mB μX9_arePassed 1 := ⟨wk40_20, wk1_5, ⟨by decide +kernel, by decide +kernel, by decide +kernel⟩, by decide⟩
theorem mvX9_arePassed : mVs μX9_arePassed 9 1 := ⟨mbX9_arePassed, by decide, rfl, wk40_18, wk40_19⟩
theorem mbX9_day : mB μX9_day 1 := ⟨wk40_16, wk1_5, ⟨by decide +kernel, by decide +kernel, by decide +kernel⟩, by decide⟩
theorem mvX9_day : mVs μX9_day 9 1 := ⟨mbX9_day, by decide, rfl, wk40_14, wk40_15⟩
theorem mbX9_isPlayed : mB μX9_isPlayed 1 := ⟨wk42_22, wk1_5, ⟨by decide +kernel, by decide +kernel, by decide +kernel⟩, by decide⟩
theorem mvX9_isPlayed : mVs μX9_isPlayed 9 1 := ⟨mbX9_isPlayed, by decide, rfl, wk42_20, wk42_21⟩
theorem mbX9_played : mB μX9_played 1 := ⟨wk42_18, wk1_5, ⟨by decide +kernel, by decide +kernel, by decide +kernel⟩, by decide⟩
theorem mvX9_played : mVs μX9_played 9 1 := ⟨mbX9_played, by decide, rfl, wk42_16, wk42_17⟩
theorem mbX9_happens : mB μX9_happens 1 := ⟨wk43_22, wk1_5, ⟨by decide +kernel, by decide +kernel, by decide +kernel⟩, by decide⟩
theorem mvX9_happens : mVs μX9_happens 9 1 := ⟨mbX9_happens, by decide, rfl, wk43_20, wk43_21⟩
theorem mbX9_years : mB μX9_years 2 := ⟨wk43_18, wk1_5, ⟨by decide +kernel, by decide +kernel, by decide +kernel⟩, by decide⟩
theorem mvX9_years : mVs μX9_years 9 2 := ⟨mbX9_years, by decide, rfl, wk43_16, wk43_17⟩
theorem mbX9_of : mB μX9_of 2 := ⟨wk45_7, wk1_5, ⟨by decide +kernel, by decide +kernel, by decide +kernel⟩, by decide⟩
theorem mvX9_of : mVs μX9_of 9 2 := ⟨mbX9_of, by decide, rfl, wk45_5, wk45_6⟩
theorem mbX9_is : mB μX9_is 1 := ⟨wk45_17, wk1_5, ⟨by decide +kernel, by decide +kernel, by decide +kernel⟩, by decide⟩
theorem mvX9_is : mVs μX9_is 9 1 := ⟨mbX9_is, by decide, rfl, wk45_15, wk45_16⟩
theorem mbX9_entry : mB μX9_entry 2 := ⟨wk46_18, wk1_5, ⟨by decide +kernel, by decide +kernel, by decide +kernel⟩, by decide⟩
theorem mvX9_entry : mVs μX9_entry 9 2 := ⟨mbX9_entry, by decide, rfl, wk46_16, wk46_17⟩
theorem mbX9_book : mB μX9_book 2 := ⟨wk46_14, wk1_5, ⟨by decide +kernel, by decide +kernel, by decide +kernel⟩, by decide⟩
theorem mvX9_book : mVs μX9_book 9 2 := ⟨mbX9_book, by decide, rfl, wk46_12, wk46_13⟩
theorem mbX9_knocksAt : mB μX9_knocksAt 2 := ⟨wk64_1, wk1_5, ⟨by decide +kernel, by decide +kernel, by decide +kernel⟩, by decide⟩
theorem mvX9_knocksAt : mVs μX9_knocksAt 9 2 := ⟨mbX9_knocksAt, by decide, rfl, wk63_23, wk64_0⟩
theorem mbX9_knocks : mB μX9_knocks 2 := ⟨wk63_21, wk1_5, ⟨by decide +kernel, by decide +kernel, by decide +kernel⟩, by decide⟩
theorem mvX9_knocks : mVs μX9_knocks 9 2 := ⟨mbX9_knocks, by decide, rfl, wk63_19, wk63_20⟩
theorem mbX9_offended : mB μX9_offended 0 := ⟨wk64_9, wk1_5, ⟨by decide +kernel, by decide +kernel, by decide +kernel⟩, by decide⟩
theorem mvX9_offended : mVs μX9_offended 9 0 := ⟨mbX9_offended, by decide, rfl, wk64_7, wk64_8⟩
theorem mbX9_setAside : mB μX9_setAside 0 := ⟨wk47_11, wk1_5, ⟨by decide +kernel, by decide +kernel, by decide +kernel⟩, by decide⟩
theorem mvX9_setAside : mVs μX9_setAside 9 0 := ⟨mbX9_setAside, by decide, rfl, wk47_9, wk47_10⟩
theorem mbX9_putBack : mB μX9_putBack 0 := ⟨wk47_19, wk1_5, ⟨by decide +kernel, by decide +kernel, by decide +kernel⟩, by decide⟩
theorem mvX9_putBack : mVs μX9_putBack 9 0 := ⟨mbX9_putBack, by decide, rfl, wk47_17, wk47_18⟩
theorem mbX9_goOn : mB μX9_goOn 1 := ⟨wk47_15, wk1_5, ⟨by decide +kernel, by decide +kernel, by decide +kernel⟩, by decide⟩
theorem mvX9_goOn : mVs μX9_goOn 9 1 := ⟨mbX9_goOn, by decide, rfl, wk47_13, wk47_14⟩
theorem mbX9_foretold : mB μX9_foretold 2 := ⟨wk47_7, wk1_5, ⟨by decide +kernel, by decide +kernel, by decide +kernel⟩, by decide⟩
theorem mvX9_foretold : mVs μX9_foretold 9 2 := ⟨mbX9_foretold, by decide, rfl, wk47_5, wk47_6⟩
theorem mbX9_poorest : mB μX9_poorest 1 := ⟨wk50_17, wk1_5, ⟨by decide +kernel, by decide +kernel, by decide +kernel⟩, by decide⟩
theorem mvX9_poorest : mVs μX9_poorest 9 1 := ⟨mbX9_poorest, by decide, rfl, wk50_15, wk50_16⟩
theorem mbX9_whose : mB μX9_whose 1 := ⟨wk63_7, wk1_5, ⟨by decide +kernel, by decide +kernel, by decide +kernel⟩, by decide⟩
theorem mvX9_whose : mVs μX9_whose 9 1 := ⟨mbX9_whose, by decide, rfl, wk63_5, wk63_6⟩
theorem mbX9_shutOn : mB μX9_shutOn 1 := ⟨wk48_11, wk1_5, ⟨by decide +kernel, by decide +kernel, by decide +kernel⟩, by decide⟩
theorem mvX9_shutOn : mVs μX9_shutOn 9 1 := ⟨mbX9_shutOn, by decide, rfl, wk48_9, wk48_10⟩
theorem mbX9_indoors : mB μX9_indoors 1 := ⟨wk48_7, wk1_5, ⟨by decide +kernel, by decide +kernel, by decide +kernel⟩, by decide⟩
theorem mvX9_indoors : mVs μX9_indoors 9 1 := ⟨mbX9_indoors, by decide, rfl, wk48_5, wk48_6⟩
theorem mbX9_crowded : mB μX9_crowded 1 := ⟨wk48_19, wk1_5, ⟨by decide +kernel, by decide +kernel, by decide +kernel⟩, by decide⟩
theorem mvX9_crowded : mVs μX9_crowded 9 1 := ⟨mbX9_crowded, by decide, rfl, wk48_17, wk48_18⟩
theorem mbX9_friendsOn : mB μX9_friendsOn 1 := ⟨wk49_12, wk1_5, ⟨by decide +kernel, by decide +kernel, by decide +kernel⟩, by decide⟩
theorem mvX9_friendsOn : mVs μX9_friendsOn 9 1 := ⟨mbX9_friendsOn, by decide, rfl, wk49_10, wk49_11⟩
theorem mbX9_feast : mB μX9_feast 1 := ⟨wk49_8, wk1_5, ⟨by decide +kernel, by decide +kernel, by decide +kernel⟩, by decide⟩
theorem mvX9_feast : mVs μX9_feast 9 1 := ⟨mbX9_feast, by decide, rfl, wk49_6, wk49_7⟩
theorem mbX9_alone : mB μX9_alone 0 := ⟨wk50_0, wk1_5, ⟨by decide +kernel, by decide +kernel, by decide +kernel⟩, by decide⟩
theorem mvX9_alone : mVs μX9_alone 9 0 := ⟨mbX9_alone, by decide, rfl, wk49_22, wk49_23⟩
theorem mbX9_nobodys : mB μX9_nobodys 0 := ⟨wk50_9, wk1_5, ⟨by decide +kernel, by decide +kernel, by decide +kernel⟩, by decide⟩
theorem mvX9_nobodys : mVs μX9_nobodys 9 0 := ⟨mbX9_nobodys, by decide, rfl, wk50_7, wk50_8⟩
theorem mbX9_seen : mB μX9_seen 3 := ⟨wk51_5, wk1_5, ⟨by decide +kernel, by decide +kernel, by decide +kernel⟩, by decide⟩
theorem mvX9_seen : mVs μX9_seen 9 3 := ⟨mbX9_seen, by decide, rfl, wk51_3, wk51_4⟩
theorem mbX9_note : mB μX9_note 2 := ⟨wk53_17, wk1_5, ⟨by decide +kernel, by decide +kernel, by decide +kernel⟩, by decide⟩
theorem mvX9_note : mVs μX9_note 9 2 := ⟨mbX9_note, by decide, rfl, wk53_15, wk53_16⟩
theorem mbX9_count : mB μX9_count 1 := ⟨wk53_21, wk1_5, ⟨by decide +kernel, by decide +kernel, by decide +kernel⟩, by decide⟩
theorem mvX9_count : mVs μX9_count 9 1 := ⟨mbX9_count, by decide, rfl, wk53_19, wk53_20⟩
theorem mbX9_laySets : mB μX9_laySets 2 := ⟨wk53_10, wk1_5, ⟨by decide +kernel, by decide +kernel, by decide +kernel⟩, by decide⟩
theorem mvX9_laySets : mVs μX9_laySets 9 2 := ⟨mbX9_laySets, by decide, rfl, wk53_8, wk53_9⟩
theorem mbX9_sets : mB μX9_sets 3 := ⟨wk53_4, wk1_5, ⟨by decide +kernel, by decide +kernel, by decide +kernel⟩, by decide⟩
theorem mvX9_sets : mVs μX9_sets 9 3 := ⟨mbX9_sets, by decide, rfl, wk53_2, wk53_3⟩
theorem mbX9_common : mB μX9_common 2 := ⟨wk54_12, wk1_5, ⟨by decide +kernel, by decide +kernel, by decide +kernel⟩, by decide⟩
theorem mbX9_odds : mB μX9_odds 4 := ⟨wk54_9, wk1_5, ⟨by decide +kernel, by decide +kernel, by decide +kernel⟩, by decide⟩
theorem mvX9_odds : mVs μX9_odds 9 4 := ⟨mbX9_odds, by decide, rfl, wk54_7, wk54_8⟩
theorem mbX9_nextKnock : mB μX9_nextKnock 2 := ⟨wk55_1, wk1_5, ⟨by decide +kernel, by decide +kernel, by decide +kernel⟩, by decide⟩
theorem mvX9_nextKnock : mVs μX9_nextKnock 9 2 := ⟨mbX9_nextKnock, by decide, rfl, wk54_23, wk55_0⟩
theorem mbX9_layThieves : mB μX9_layThieves 2 := ⟨wk56_1, wk1_5, ⟨by decide +kernel, by decide +kernel, by decide +kernel⟩, by decide⟩
theorem mvX9_layThieves : mVs μX9_layThieves 9 2 := ⟨mbX9_layThieves, by decide, rfl, wk55_23, wk56_0⟩
theorem mbX9_thieves : mB μX9_thieves 3 := ⟨wk55_19, wk1_5, ⟨by decide +kernel, by decide +kernel, by decide +kernel⟩, by decide⟩
theorem mvX9_thieves : mVs μX9_thieves 9 3 := ⟨mbX9_thieves, by decide, rfl, wk55_17, wk55_18⟩
theorem mbX9_night : mB μX9_night 1 := ⟨wk56_9, wk1_5, ⟨by decide +kernel, by decide +kernel, by decide +kernel⟩, by decide⟩
theorem mvX9_night : mVs μX9_night 9 1 := ⟨mbX9_night, by decide, rfl, wk56_7, wk56_8⟩
theorem mbX9_isLaid : mB μX9_isLaid 3 := ⟨wk57_19, wk1_5, ⟨by decide +kernel, by decide +kernel, by decide +kernel⟩, by decide⟩
theorem mvX9_isLaid : mVs μX9_isLaid 9 3 := ⟨mbX9_isLaid, by decide, rfl, wk57_17, wk57_18⟩
theorem mbX9_layMembers : mB μX9_layMembers 1 := ⟨wk57_15, wk1_5, ⟨by decide +kernel, by decide +kernel, by decide +kernel⟩, by decide⟩
theorem mvX9_layMembers : mVs μX9_layMembers 9 1 := ⟨mbX9_layMembers, by decide, rfl, wk57_13, wk57_14⟩
theorem mbX9_areHere : mB μX9_areHere 1 := ⟨wk57_11, wk1_5, ⟨by decide +kernel, by decide +kernel, by decide +kernel⟩, by decide⟩
theorem mvX9_areHere : mVs μX9_areHere 9 1 := ⟨mbX9_areHere, by decide, rfl, wk57_9, wk57_10⟩
theorem mbX9_appointments : mB μX9_appointments 2 := ⟨wk57_7, wk1_5, ⟨by decide +kernel, by decide +kernel, by decide +kernel⟩, by decide⟩
theorem mvX9_appointments : mVs μX9_appointments 9 2 := ⟨mbX9_appointments, by decide, rfl, wk57_5, wk57_6⟩
theorem mbX9_isRound : mB μX9_isRound 1 := ⟨wk58_11, wk1_5, ⟨by decide +kernel, by decide +kernel, by decide +kernel⟩, by decide⟩
theorem mvX9_isRound : mVs μX9_isRound 9 1 := ⟨mbX9_isRound, by decide, rfl, wk58_9, wk58_10⟩
theorem mbX9_rounds : mB μX9_rounds 0 := ⟨wk58_7, wk1_5, ⟨by decide +kernel, by decide +kernel, by decide +kernel⟩, by decide⟩
theorem mvX9_rounds : mVs μX9_rounds 9 0 := ⟨mbX9_rounds, by decide, rfl, wk58_5, wk58_6⟩
theorem mbX9_sharedNow : mB μX9_sharedNow 0 := ⟨wk59_22, wk1_5, ⟨by decide +kernel, by decide +kernel, by decide +kernel⟩, by decide⟩
theorem mvX9_sharedNow : mVs μX9_sharedNow 9 0 := ⟨mbX9_sharedNow, by decide, rfl, wk59_20, wk59_21⟩
theorem mbX9_nextMate : mB μX9_nextMate 2 := ⟨wk60_6, wk1_5, ⟨by decide +kernel, by decide +kernel, by decide +kernel⟩, by decide⟩
theorem mvX9_nextMate : mVs μX9_nextMate 9 2 := ⟨mbX9_nextMate, by decide, rfl, wk60_4, wk60_5⟩
theorem mbX9_nextRow : mB μX9_nextRow 0 := ⟨wk60_2, wk1_5, ⟨by decide +kernel, by decide +kernel, by decide +kernel⟩, by decide⟩
theorem mvX9_nextRow : mVs μX9_nextRow 9 0 := ⟨mbX9_nextRow, by decide, rfl, wk60_0, wk60_1⟩
theorem mbX9_wed : mB μX9_wed 0 := ⟨wk59_18, wk1_5, ⟨by decide +kernel, by decide +kernel, by decide +kernel⟩, by decide⟩
theorem mvX9_wed : mVs μX9_wed 9 0 := ⟨mbX9_wed, by decide, rfl, wk59_16, wk59_17⟩
theorem mbX9_weddings : mB μX9_weddings 1 := ⟨wk59_14, wk1_5, ⟨by decide +kernel, by decide +kernel, by decide +kernel⟩, by decide⟩
theorem mvX9_weddings : mVs μX9_weddings 9 1 := ⟨mbX9_weddings, by decide, rfl, wk59_12, wk59_13⟩
theorem mbX9_twins : mB μX9_twins 0 := ⟨wk60_14, wk1_5, ⟨by decide +kernel, by decide +kernel, by decide +kernel⟩, by decide⟩
theorem mvX9_twins : mVs μX9_twins 9 0 := ⟨mbX9_twins, by decide, rfl, wk60_12, wk60_13⟩
theorem mbX9_gossip : mB μX9_gossip 2 := ⟨wk61_1, wk1_5, ⟨by decide +kernel, by decide +kernel, by decide +kernel⟩, by decide⟩
theorem mvX9_gossip : mVs μX9_gossip 9 2 := ⟨mbX9_gossip, by decide, rfl, wk60_23, wk61_0⟩
theorem mbX9_spread : mB μX9_spread 1 := ⟨wk61_18, wk1_5, ⟨by decide +kernel, by decide +kernel, by decide +kernel⟩, by decide⟩
theorem mvX9_spread : mVs μX9_spread 9 1 := ⟨mbX9_spread, by decide, rfl, wk61_16, wk61_17⟩
theorem mbX9_knows : mB μX9_knows 2 := ⟨wk61_14, wk1_5, ⟨by decide +kernel, by decide +kernel, by decide +kernel⟩, by decide⟩
theorem mvX9_knows : mVs μX9_knows 9 2 := ⟨mbX9_knows, by decide, rfl, wk61_12, wk61_13⟩
theorem mbX9_never : mB μX9_never 1 := ⟨wk62_2, wk1_5, ⟨by decide +kernel, by decide +kernel, by decide +kernel⟩, by decide⟩
theorem mvX9_never : mVs μX9_never 9 1 := ⟨mbX9_never, by decide, rfl, wk62_0, wk62_1⟩
theorem mbX9_earnedOn : mB μX9_earnedOn 1 := ⟨wk62_19, wk1_5, ⟨by decide +kernel, by decide +kernel, by decide +kernel⟩, by decide⟩
theorem mvX9_earnedOn : mVs μX9_earnedOn 9 1 := ⟨mbX9_earnedOn, by decide, rfl, wk62_17, wk62_18⟩
theorem mbX9_richest : mB μX9_richest 1 := ⟨wk62_15, wk1_5, ⟨by decide +kernel, by decide +kernel, by decide +kernel⟩, by decide⟩
theorem mvX9_richest : mVs μX9_richest 9 1 := ⟨mbX9_richest, by decide, rfl, wk62_13, wk62_14⟩
theorem mbX9_later : mB μX9_later 2 := ⟨wk64_20, wk1_5, ⟨by decide +kernel, by decide +kernel, by decide +kernel⟩, by decide⟩
theorem mbX9_leap : mB μX9_leap 2 := ⟨wk64_17, wk1_5, ⟨by decide +kernel, by decide +kernel, by decide +kernel⟩, by decide⟩
theorem mvX9_leap : mVs μX9_leap 9 2 := ⟨mbX9_leap, by decide, rfl, wk64_15, wk64_16⟩
theorem mbX9_image : mB μX9_image 0 := ⟨wk65_11, wk1_5, ⟨by decide +kernel, by decide +kernel, by decide +kernel⟩, by decide⟩
theorem mvX9_image : mVs μX9_image 9 0 := ⟨mbX9_image, by decide, rfl, wk65_9, wk65_10⟩
theorem mbX9_back : mB μX9_back 0 := ⟨wk65_19, wk1_5, ⟨by decide +kernel, by decide +kernel, by decide +kernel⟩, by decide⟩
theorem mvX9_back : mVs μX9_back 9 0 := ⟨mbX9_back, by decide, rfl, wk65_17, wk65_18⟩
theorem mbX9_about : mB μX9_about 1 := ⟨wk66_4, wk1_5, ⟨by decide +kernel, by decide +kernel, by decide +kernel⟩, by decide⟩
theorem mvX9_about : mVs μX9_about 9 1 := ⟨mbX9_about, by decide, rfl, wk66_2, wk66_3⟩
theorem mbJ11_isValidCodePoint_9a6ad : mB μJ11_isValidCodePoint_9a6ad 1 := ⟨wk15_5, wk15_4, ⟨by decide +kernel, by decide +kernel, by decide +kernel⟩, by decide⟩
theorem mbJ11_highSurrogate_5068e : mB μJ11_highSurrogate_5068e 1 := ⟨wk15_8, wk15_4, ⟨by decide +kernel, by decide +kernel, by decide +kernel⟩, by decide⟩
theorem mbJ11_lowSurrogate_5068e : mB μJ11_lowSurrogate_5068e 1 := ⟨wk15_12, wk15_4, ⟨by decide +kernel, by decide +kernel, by decide +kernel⟩, by decide⟩
theorem mbJ6_bitCount_0f7a4 : mB μJ6_bitCount_0f7a4 1 := ⟨wk30_8, wk30_7, ⟨by decide +kernel, by decide +kernel, by decide +kernel⟩, by decide⟩
theorem mbJ0_length_8abf5 : mB μJ0_length_8abf5 0 := ⟨wk13_8, wk11_7, ⟨by decide +kernel, by decide +kernel, by decide +kernel⟩, by decide⟩
theorem mbJ0_charAt_5068e : mB μJ0_charAt_5068e 1 := ⟨wk11_8, wk11_7, ⟨by decide +kernel, by decide +kernel, by decide +kernel⟩, by decide⟩
theorem mbJ0_indexOf_0f7a4 : mB μJ0_indexOf_0f7a4 1 := ⟨wk13_0, wk11_7, ⟨by decide +kernel, by decide +kernel, by decide +kernel⟩, by decide⟩
theorem mbJ0_indexOf_7cf53 : mB μJ0_indexOf_7cf53 2 := ⟨wk13_4, wk11_7, ⟨by decide +kernel, by decide +kernel, by decide +kernel⟩, by decide⟩
theorem mbJ0_coder_7d493 : mB μJ0_coder_7d493 0 := ⟨wk13_12, wk11_7, ⟨by decide +kernel, by decide +kernel, by decide +kernel⟩, by decide⟩
theorem mbJ0_isLatin1_aae02 : mB μJ0_isLatin1_aae02 0 := ⟨wk11_13, wk11_7, ⟨by decide +kernel, by decide +kernel, by decide +kernel⟩, by decide⟩
theorem mbJ0_checkIndex_df160 : mB μJ0_checkIndex_df160 2 := ⟨wk11_22, wk11_7, ⟨by decide +kernel, by decide +kernel, by decide +kernel⟩, by decide⟩
theorem mbJ0_checkBoundsBeginEnd_23922 : mB μJ0_checkBoundsBeginEnd_23922 3 := ⟨wk14_16, wk11_7, ⟨by decide +kernel, by decide +kernel, by decide +kernel⟩, by decide⟩
theorem mbJ1_charAt_3b067 : mB μJ1_charAt_3b067 2 := ⟨wk11_19, wk11_18, ⟨by decide +kernel, by decide +kernel, by decide +kernel⟩, by decide⟩
theorem mbJ1_canEncode_9a6ad : mB μJ1_canEncode_9a6ad 1 := ⟨wk13_22, wk11_18, ⟨by decide +kernel, by decide +kernel, by decide +kernel⟩, by decide⟩
theorem mbJ1_indexOf_4cfef : mB μJ1_indexOf_4cfef 4 := ⟨wk13_15, wk11_18, ⟨by decide +kernel, by decide +kernel, by decide +kernel⟩, by decide⟩
theorem mbJ1_indexOfChar_4cfef : mB μJ1_indexOfChar_4cfef 4 := ⟨wk14_1, wk11_18, ⟨by decide +kernel, by decide +kernel, by decide +kernel⟩, by decide⟩
theorem mbJ2_getChar_3b067 : mB μJ2_getChar_3b067 2 := ⟨wk12_17, wk12_6, ⟨by decide +kernel, by decide +kernel, by decide +kernel⟩, by decide⟩
theorem mbJ2_length_9d52b : mB μJ2_length_9d52b 1 := ⟨wk12_13, wk12_6, ⟨by decide +kernel, by decide +kernel, by decide +kernel⟩, by decide⟩
theorem mbJ2_indexOf_4cfef : mB μJ2_indexOf_4cfef 4 := ⟨wk14_4, wk12_6, ⟨by decide +kernel, by decide +kernel, by decide +kernel⟩, by decide⟩
theorem mbJ2_indexOfChar_4cfef : mB μJ2_indexOfChar_4cfef 4 := ⟨wk14_10, wk12_6, ⟨by decide +kernel, by decide +kernel, by decide +kernel⟩, by decide⟩
theorem mbJ2_indexOfCharUnsafe_4cfef : mB μJ2_indexOfCharUnsafe_4cfef 4 := ⟨wk14_22, wk12_6, ⟨by decide +kernel, by decide +kernel, by decide +kernel⟩, by decide⟩
theorem mbJ2_indexOfSupplementary_4cfef : mB μJ2_indexOfSupplementary_4cfef 4 := ⟨wk15_1, wk12_6, ⟨by decide +kernel, by decide +kernel, by decide +kernel⟩, by decide⟩
theorem mbJ2_charAt_3b067 : mB μJ2_charAt_3b067 2 := ⟨wk12_7, wk12_6, ⟨by decide +kernel, by decide +kernel, by decide +kernel⟩, by decide⟩
theorem mbJ2_checkIndex_2214a : mB μJ2_checkIndex_2214a 2 := ⟨wk12_10, wk12_6, ⟨by decide +kernel, by decide +kernel, by decide +kernel⟩, by decide⟩
theorem mbJ2_checkBoundsBeginEnd_d044e : mB μJ2_checkBoundsBeginEnd_d044e 3 := ⟨wk14_13, wk12_6, ⟨by decide +kernel, by decide +kernel, by decide +kernel⟩, by decide⟩
theorem mbJ3_checkIndex_8e157 : mB μJ3_checkIndex_8e157 3 := ⟨wk12_3, wk12_2, ⟨by decide +kernel, by decide +kernel, by decide +kernel⟩, by decide⟩
theorem mbJ3_checkFromToIndex_8c36e : mB μJ3_checkFromToIndex_8c36e 4 := ⟨wk14_19, wk12_2, ⟨by decide +kernel, by decide +kernel, by decide +kernel⟩, by decide⟩
