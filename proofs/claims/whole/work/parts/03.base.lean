/-! the words of all methods: one list for all -/
def w_all : List Cond := lw_tbl.filter goodWord
theorem w_mem {w : Cond} (i : Nat) (h : lw_tbl[i]? = some w) (hg : goodWord w = true) : w ∈ w_all := List.mem_filter.mpr ⟨List.mem_of_getElem? h, hg⟩
theorem w_good {w : Cond} (h : w ∈ w_all) : goodWord w = true := (List.mem_filter.mp h).2
theorem w_in {c c2 : Cond} (h : c2 ∈ w_all) : GoodIn (c :: w_all) (c2 :: w_all) := by
  intro w hw
  rcases List.mem_cons.mp hw with rfl | hw
  · exact ⟨List.mem_cons_of_mem _ h, good_of_word (w_good h)⟩
  · exact ⟨List.mem_cons_of_mem _ hw, good_of_word (w_good hw)⟩
theorem w_inV {c c2 : Cond} {own C : String} {i : Nat} {y : MethodName} (h : c2 ∈ w_all) (h1 : Cond.methodLink own i y ∈ w_all) (h2 : Cond.instanceMethod y ∈ w_all) (h3 : Cond.selects C y y ∈ w_all) (h4 : Cond.initialized C ∈ w_all) : GoodIn (c :: w_all) (wsV own i C y (c2 :: w_all)) := by
  intro w hw
  unfold wsV at hw
  rcases List.mem_append.mp hw with hw | hw
  · simp only [List.mem_cons, List.not_mem_nil, or_false] at hw
    rcases hw with rfl | rfl | rfl | rfl
    · exact ⟨List.mem_cons_of_mem _ h1, good_of_word (w_good h1)⟩
    · exact ⟨List.mem_cons_of_mem _ h2, good_of_word (w_good h2)⟩
    · exact ⟨List.mem_cons_of_mem _ h3, good_of_word (w_good h3)⟩
    · exact ⟨List.mem_cons_of_mem _ h4, good_of_word (w_good h4)⟩
  · exact w_in h w hw
theorem w_inS {c c2 : Cond} {own : String} {i : Nat} {y : MethodName} (h : c2 ∈ w_all) (h1 : Cond.methodLink own i y ∈ w_all) (h2 : Cond.static y ∈ w_all) (h4 : Cond.initialized y.cls ∈ w_all) : GoodIn (c :: w_all) (va_wsS own i y (c2 :: w_all)) := by
  intro w hw
  unfold va_wsS at hw
  rcases List.mem_append.mp hw with hw | hw
  · simp only [List.mem_cons, List.not_mem_nil, or_false] at hw
    rcases hw with rfl | rfl | rfl
    · exact ⟨List.mem_cons_of_mem _ h1, good_of_word (w_good h1)⟩
    · exact ⟨List.mem_cons_of_mem _ h2, good_of_word (w_good h2)⟩
    · exact ⟨List.mem_cons_of_mem _ h4, good_of_word (w_good h4)⟩
  · exact w_in h w hw
/-! partial functions: none = outside, or out of steps -/
def gd {α : Type} (p : Prop) [Decidable p] (x : Option α) : Option α := if p then none else x
theorem gd_inv {α : Type} {p : Prop} [Decidable p] {x : Option α} {r : α} (h : gd p x = some r) : ¬ p ∧ x = some r := by
  unfold gd at h
  by_cases hp : p
  · rw [if_pos hp] at h; cases h
  · rw [if_neg hp] at h; exact ⟨hp, h⟩
theorem it_t {α : Type} {c : Prop} [Decidable c] {a b : Option α} {r : α} (h : (if c then a else b) = some r) (hc : c) : a = some r := by rw [if_pos hc] at h; exact h
theorem it_f {α : Type} {c : Prop} [Decidable c] {a b : Option α} {r : α} (h : (if c then a else b) = some r) (hc : ¬ c) : b = some r := by rw [if_neg hc] at h; exact h
def fu : Nat := 5000
def ob1 {A Z : Type} (o : Option (A)) (k : A → Option Z) : Option Z := match o with
  | none => none
  | some q => k q
theorem ob1_inv {A Z : Type} {o : Option (A)} {k : A → Option Z} {z : Z} (h : ob1 o k = some z) : ∃ x0, o = some x0 ∧ k x0 = some z := by
  cases o with
  | none => cases h
  | some q => exact ⟨q, rfl, h⟩
def ob2 {A B Z : Type} (o : Option (A × B)) (k : A → B → Option Z) : Option Z := match o with
  | none => none
  | some q => k q.1 q.2
theorem ob2_inv {A B Z : Type} {o : Option (A × B)} {k : A → B → Option Z} {z : Z} (h : ob2 o k = some z) : ∃ x0 x1, o = some (x0, x1) ∧ k x0 x1 = some z := by
  cases o with
  | none => cases h
  | some q => exact ⟨q.1, q.2, rfl, h⟩
def ob3 {A B C Z : Type} (o : Option (A × B × C)) (k : A → B → C → Option Z) : Option Z := match o with
  | none => none
  | some q => k q.1 q.2.1 q.2.2
theorem ob3_inv {A B C Z : Type} {o : Option (A × B × C)} {k : A → B → C → Option Z} {z : Z} (h : ob3 o k = some z) : ∃ x0 x1 x2, o = some (x0, x1, x2) ∧ k x0 x1 x2 = some z := by
  cases o with
  | none => cases h
  | some q => exact ⟨q.1, q.2.1, q.2.2, rfl, h⟩
def ob4 {A B C D Z : Type} (o : Option (A × B × C × D)) (k : A → B → C → D → Option Z) : Option Z := match o with
  | none => none
  | some q => k q.1 q.2.1 q.2.2.1 q.2.2.2
theorem ob4_inv {A B C D Z : Type} {o : Option (A × B × C × D)} {k : A → B → C → D → Option Z} {z : Z} (h : ob4 o k = some z) : ∃ x0 x1 x2 x3, o = some (x0, x1, x2, x3) ∧ k x0 x1 x2 x3 = some z := by
  cases o with
  | none => cases h
  | some q => exact ⟨q.1, q.2.1, q.2.2.1, q.2.2.2, rfl, h⟩
def ob5 {A B C D E Z : Type} (o : Option (A × B × C × D × E)) (k : A → B → C → D → E → Option Z) : Option Z := match o with
  | none => none
  | some q => k q.1 q.2.1 q.2.2.1 q.2.2.2.1 q.2.2.2.2
theorem ob5_inv {A B C D E Z : Type} {o : Option (A × B × C × D × E)} {k : A → B → C → D → E → Option Z} {z : Z} (h : ob5 o k = some z) : ∃ x0 x1 x2 x3 x4, o = some (x0, x1, x2, x3, x4) ∧ k x0 x1 x2 x3 x4 = some z := by
  cases o with
  | none => cases h
  | some q => exact ⟨q.1, q.2.1, q.2.2.1, q.2.2.2.1, q.2.2.2.2, rfl, h⟩
def ob6 {A B C D E F Z : Type} (o : Option (A × B × C × D × E × F)) (k : A → B → C → D → E → F → Option Z) : Option Z := match o with
  | none => none
  | some q => k q.1 q.2.1 q.2.2.1 q.2.2.2.1 q.2.2.2.2.1 q.2.2.2.2.2
theorem ob6_inv {A B C D E F Z : Type} {o : Option (A × B × C × D × E × F)} {k : A → B → C → D → E → F → Option Z} {z : Z} (h : ob6 o k = some z) : ∃ x0 x1 x2 x3 x4 x5, o = some (x0, x1, x2, x3, x4, x5) ∧ k x0 x1 x2 x3 x4 x5 = some z := by
  cases o with
  | none => cases h
  | some q => exact ⟨q.1, q.2.1, q.2.2.1, q.2.2.2.1, q.2.2.2.2.1, q.2.2.2.2.2, rfl, h⟩
def ob7 {A B C D E F G Z : Type} (o : Option (A × B × C × D × E × F × G)) (k : A → B → C → D → E → F → G → Option Z) : Option Z := match o with
  | none => none
  | some q => k q.1 q.2.1 q.2.2.1 q.2.2.2.1 q.2.2.2.2.1 q.2.2.2.2.2.1 q.2.2.2.2.2.2
theorem ob7_inv {A B C D E F G Z : Type} {o : Option (A × B × C × D × E × F × G)} {k : A → B → C → D → E → F → G → Option Z} {z : Z} (h : ob7 o k = some z) : ∃ x0 x1 x2 x3 x4 x5 x6, o = some (x0, x1, x2, x3, x4, x5, x6) ∧ k x0 x1 x2 x3 x4 x5 x6 = some z := by
  cases o with
  | none => cases h
  | some q => exact ⟨q.1, q.2.1, q.2.2.1, q.2.2.2.1, q.2.2.2.2.1, q.2.2.2.2.2.1, q.2.2.2.2.2.2, rfl, h⟩
def ob8 {A B C D E F G H Z : Type} (o : Option (A × B × C × D × E × F × G × H)) (k : A → B → C → D → E → F → G → H → Option Z) : Option Z := match o with
  | none => none
  | some q => k q.1 q.2.1 q.2.2.1 q.2.2.2.1 q.2.2.2.2.1 q.2.2.2.2.2.1 q.2.2.2.2.2.2.1 q.2.2.2.2.2.2.2
theorem ob8_inv {A B C D E F G H Z : Type} {o : Option (A × B × C × D × E × F × G × H)} {k : A → B → C → D → E → F → G → H → Option Z} {z : Z} (h : ob8 o k = some z) : ∃ x0 x1 x2 x3 x4 x5 x6 x7, o = some (x0, x1, x2, x3, x4, x5, x6, x7) ∧ k x0 x1 x2 x3 x4 x5 x6 x7 = some z := by
  cases o with
  | none => cases h
  | some q => exact ⟨q.1, q.2.1, q.2.2.1, q.2.2.2.1, q.2.2.2.2.1, q.2.2.2.2.2.1, q.2.2.2.2.2.2.1, q.2.2.2.2.2.2.2, rfl, h⟩
def ob9 {A B C D E F G H I Z : Type} (o : Option (A × B × C × D × E × F × G × H × I)) (k : A → B → C → D → E → F → G → H → I → Option Z) : Option Z := match o with
  | none => none
  | some q => k q.1 q.2.1 q.2.2.1 q.2.2.2.1 q.2.2.2.2.1 q.2.2.2.2.2.1 q.2.2.2.2.2.2.1 q.2.2.2.2.2.2.2.1 q.2.2.2.2.2.2.2.2
theorem ob9_inv {A B C D E F G H I Z : Type} {o : Option (A × B × C × D × E × F × G × H × I)} {k : A → B → C → D → E → F → G → H → I → Option Z} {z : Z} (h : ob9 o k = some z) : ∃ x0 x1 x2 x3 x4 x5 x6 x7 x8, o = some (x0, x1, x2, x3, x4, x5, x6, x7, x8) ∧ k x0 x1 x2 x3 x4 x5 x6 x7 x8 = some z := by
  cases o with
  | none => cases h
  | some q => exact ⟨q.1, q.2.1, q.2.2.1, q.2.2.2.1, q.2.2.2.2.1, q.2.2.2.2.2.1, q.2.2.2.2.2.2.1, q.2.2.2.2.2.2.2.1, q.2.2.2.2.2.2.2.2, rfl, h⟩
def ob10 {A B C D E F G H I J Z : Type} (o : Option (A × B × C × D × E × F × G × H × I × J)) (k : A → B → C → D → E → F → G → H → I → J → Option Z) : Option Z := match o with
  | none => none
  | some q => k q.1 q.2.1 q.2.2.1 q.2.2.2.1 q.2.2.2.2.1 q.2.2.2.2.2.1 q.2.2.2.2.2.2.1 q.2.2.2.2.2.2.2.1 q.2.2.2.2.2.2.2.2.1 q.2.2.2.2.2.2.2.2.2
theorem ob10_inv {A B C D E F G H I J Z : Type} {o : Option (A × B × C × D × E × F × G × H × I × J)} {k : A → B → C → D → E → F → G → H → I → J → Option Z} {z : Z} (h : ob10 o k = some z) : ∃ x0 x1 x2 x3 x4 x5 x6 x7 x8 x9, o = some (x0, x1, x2, x3, x4, x5, x6, x7, x8, x9) ∧ k x0 x1 x2 x3 x4 x5 x6 x7 x8 x9 = some z := by
  cases o with
  | none => cases h
  | some q => exact ⟨q.1, q.2.1, q.2.2.1, q.2.2.2.1, q.2.2.2.2.1, q.2.2.2.2.2.1, q.2.2.2.2.2.2.1, q.2.2.2.2.2.2.2.1, q.2.2.2.2.2.2.2.2.1, q.2.2.2.2.2.2.2.2.2, rfl, h⟩
def ob11 {A B C D E F G H I J K Z : Type} (o : Option (A × B × C × D × E × F × G × H × I × J × K)) (k : A → B → C → D → E → F → G → H → I → J → K → Option Z) : Option Z := match o with
  | none => none
  | some q => k q.1 q.2.1 q.2.2.1 q.2.2.2.1 q.2.2.2.2.1 q.2.2.2.2.2.1 q.2.2.2.2.2.2.1 q.2.2.2.2.2.2.2.1 q.2.2.2.2.2.2.2.2.1 q.2.2.2.2.2.2.2.2.2.1 q.2.2.2.2.2.2.2.2.2.2
theorem ob11_inv {A B C D E F G H I J K Z : Type} {o : Option (A × B × C × D × E × F × G × H × I × J × K)} {k : A → B → C → D → E → F → G → H → I → J → K → Option Z} {z : Z} (h : ob11 o k = some z) : ∃ x0 x1 x2 x3 x4 x5 x6 x7 x8 x9 x10, o = some (x0, x1, x2, x3, x4, x5, x6, x7, x8, x9, x10) ∧ k x0 x1 x2 x3 x4 x5 x6 x7 x8 x9 x10 = some z := by
  cases o with
  | none => cases h
  | some q => exact ⟨q.1, q.2.1, q.2.2.1, q.2.2.2.1, q.2.2.2.2.1, q.2.2.2.2.2.1, q.2.2.2.2.2.2.1, q.2.2.2.2.2.2.2.1, q.2.2.2.2.2.2.2.2.1, q.2.2.2.2.2.2.2.2.2.1, q.2.2.2.2.2.2.2.2.2.2, rfl, h⟩
def ob12 {A B C D E F G H I J K L Z : Type} (o : Option (A × B × C × D × E × F × G × H × I × J × K × L)) (k : A → B → C → D → E → F → G → H → I → J → K → L → Option Z) : Option Z := match o with
  | none => none
  | some q => k q.1 q.2.1 q.2.2.1 q.2.2.2.1 q.2.2.2.2.1 q.2.2.2.2.2.1 q.2.2.2.2.2.2.1 q.2.2.2.2.2.2.2.1 q.2.2.2.2.2.2.2.2.1 q.2.2.2.2.2.2.2.2.2.1 q.2.2.2.2.2.2.2.2.2.2.1 q.2.2.2.2.2.2.2.2.2.2.2
theorem ob12_inv {A B C D E F G H I J K L Z : Type} {o : Option (A × B × C × D × E × F × G × H × I × J × K × L)} {k : A → B → C → D → E → F → G → H → I → J → K → L → Option Z} {z : Z} (h : ob12 o k = some z) : ∃ x0 x1 x2 x3 x4 x5 x6 x7 x8 x9 x10 x11, o = some (x0, x1, x2, x3, x4, x5, x6, x7, x8, x9, x10, x11) ∧ k x0 x1 x2 x3 x4 x5 x6 x7 x8 x9 x10 x11 = some z := by
  cases o with
  | none => cases h
  | some q => exact ⟨q.1, q.2.1, q.2.2.1, q.2.2.2.1, q.2.2.2.2.1, q.2.2.2.2.2.1, q.2.2.2.2.2.2.1, q.2.2.2.2.2.2.2.1, q.2.2.2.2.2.2.2.2.1, q.2.2.2.2.2.2.2.2.2.1, q.2.2.2.2.2.2.2.2.2.2.1, q.2.2.2.2.2.2.2.2.2.2.2, rfl, h⟩
def ob13 {A B C D E F G H I J K L M Z : Type} (o : Option (A × B × C × D × E × F × G × H × I × J × K × L × M)) (k : A → B → C → D → E → F → G → H → I → J → K → L → M → Option Z) : Option Z := match o with
  | none => none
  | some q => k q.1 q.2.1 q.2.2.1 q.2.2.2.1 q.2.2.2.2.1 q.2.2.2.2.2.1 q.2.2.2.2.2.2.1 q.2.2.2.2.2.2.2.1 q.2.2.2.2.2.2.2.2.1 q.2.2.2.2.2.2.2.2.2.1 q.2.2.2.2.2.2.2.2.2.2.1 q.2.2.2.2.2.2.2.2.2.2.2.1 q.2.2.2.2.2.2.2.2.2.2.2.2
theorem ob13_inv {A B C D E F G H I J K L M Z : Type} {o : Option (A × B × C × D × E × F × G × H × I × J × K × L × M)} {k : A → B → C → D → E → F → G → H → I → J → K → L → M → Option Z} {z : Z} (h : ob13 o k = some z) : ∃ x0 x1 x2 x3 x4 x5 x6 x7 x8 x9 x10 x11 x12, o = some (x0, x1, x2, x3, x4, x5, x6, x7, x8, x9, x10, x11, x12) ∧ k x0 x1 x2 x3 x4 x5 x6 x7 x8 x9 x10 x11 x12 = some z := by
  cases o with
  | none => cases h
  | some q => exact ⟨q.1, q.2.1, q.2.2.1, q.2.2.2.1, q.2.2.2.2.1, q.2.2.2.2.2.1, q.2.2.2.2.2.2.1, q.2.2.2.2.2.2.2.1, q.2.2.2.2.2.2.2.2.1, q.2.2.2.2.2.2.2.2.2.1, q.2.2.2.2.2.2.2.2.2.2.1, q.2.2.2.2.2.2.2.2.2.2.2.1, q.2.2.2.2.2.2.2.2.2.2.2.2, rfl, h⟩
def ob14 {A B C D E F G H I J K L M N Z : Type} (o : Option (A × B × C × D × E × F × G × H × I × J × K × L × M × N)) (k : A → B → C → D → E → F → G → H → I → J → K → L → M → N → Option Z) : Option Z := match o with
  | none => none
  | some q => k q.1 q.2.1 q.2.2.1 q.2.2.2.1 q.2.2.2.2.1 q.2.2.2.2.2.1 q.2.2.2.2.2.2.1 q.2.2.2.2.2.2.2.1 q.2.2.2.2.2.2.2.2.1 q.2.2.2.2.2.2.2.2.2.1 q.2.2.2.2.2.2.2.2.2.2.1 q.2.2.2.2.2.2.2.2.2.2.2.1 q.2.2.2.2.2.2.2.2.2.2.2.2.1 q.2.2.2.2.2.2.2.2.2.2.2.2.2
theorem ob14_inv {A B C D E F G H I J K L M N Z : Type} {o : Option (A × B × C × D × E × F × G × H × I × J × K × L × M × N)} {k : A → B → C → D → E → F → G → H → I → J → K → L → M → N → Option Z} {z : Z} (h : ob14 o k = some z) : ∃ x0 x1 x2 x3 x4 x5 x6 x7 x8 x9 x10 x11 x12 x13, o = some (x0, x1, x2, x3, x4, x5, x6, x7, x8, x9, x10, x11, x12, x13) ∧ k x0 x1 x2 x3 x4 x5 x6 x7 x8 x9 x10 x11 x12 x13 = some z := by
  cases o with
  | none => cases h
  | some q => exact ⟨q.1, q.2.1, q.2.2.1, q.2.2.2.1, q.2.2.2.2.1, q.2.2.2.2.2.1, q.2.2.2.2.2.2.1, q.2.2.2.2.2.2.2.1, q.2.2.2.2.2.2.2.2.1, q.2.2.2.2.2.2.2.2.2.1, q.2.2.2.2.2.2.2.2.2.2.1, q.2.2.2.2.2.2.2.2.2.2.2.1, q.2.2.2.2.2.2.2.2.2.2.2.2.1, q.2.2.2.2.2.2.2.2.2.2.2.2.2, rfl, h⟩
