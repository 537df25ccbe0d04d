/-! the beginning -/
theorem rl_init : Rl 0 (fun _ => 0) (fillF (fun _ => 0) (-1) 8) (fun _ => 0) (fun _ => 0) (fillF (fun _ => 0) (-1) 128) (fun _ => 0) (fun _ => 0) (fun _ => 0) (fun _ => 0) (fun _ => 0) (fun _ => 0) (fun _ => 0) (fun _ => 0) (fun _ => 0) (fun _ => 0) (fun _ => 0) (fun _ => 0) (fun _ => 0) (fun _ => 0) (fun _ => 0) 0 (-1) 0 0 0 0 0 0 0 (fun _ => 0) (fun _ => 0) 0 (fillF (fun _ => 0) (-1) 128) 0 (fun _ => 0) (fun _ => 0) (fun _ => 0) (fun _ => 0) (fun _ => 0) (fun _ => 0) (fun _ => 0) (fun _ => 0) (fun _ => 0) (fun _ => 0) (fun _ => 0) (fun _ => 0) (fun _ => 0) 0 0 0 (fun _ => 0) (fun _ => 0) 0 := by
  have hst : stAt (fun _ => 0) (fun _ => 0) := fun o _ => ⟨rfl, (show (0 : Nat) < 5 by decide)⟩
  have htm : tmAt (fillF (fun _ => 0) (-1) 128) (fun _ _ => none) := fun o t ho ht => ⟨by
    unfold fillF
    rw [if_pos (by omega)]
    rfl, fun a h => (by cases h)⟩
  have hrw : ∀ (f1 f2 f3 : Nat → Int32) (g1 g2 : Nat → Int64), rowsP f1 f2 g1 g2 f3 0 [] := fun f1 f2 f3 g1 g2 => ⟨[], ⟨by decide, fun r hr => (by cases hr), fun k r hr => (by cases hr)⟩, rfl, List.Perm.refl _⟩
  refine ⟨rq0, fun _ => 0, fun _ => 0, fun _ => 0, 0, 0, 0, 0, fun _ => 0, fun _ _ => none, [], [], [], ⟨⟨hst, htm, hrw _ _ _ _ _, ⟨⟨by decide, fun x hx => (by cases hx), List.nodup_nil, fun k x hx => (by cases hx)⟩, rfl⟩, fun k x hx => (by cases hx), rfl⟩, ⟨hst, htm, hrw _ _ _ _ _, fun k x hx => (by cases hx), rfl⟩, ⟨⟨List.nodup_nil, fun o => ⟨fun h => (by cases h), fun h => (by cases h.2)⟩, List.Pairwise.nil⟩, fun a b _ _ h => (by cases h), fun o ho => (by cases ho), fun o _ h => (by cases h), fun o ho => (by cases ho)⟩, ⟨by decide, fun o t => (by decide : 0 ≤ 8), fun o ho => (by cases ho), fun o ho => (by cases ho), fun o ho => (by cases ho), fun o ho => (by cases ho), fun o ho => (by cases ho)⟩, by decide⟩, ⟨fun o _ h => absurd rfl h, fun o ho _ => ?_, rfl, ⟨rfl, rfl, by decide⟩, ⟨rfl, by decide⟩, fun o ho => (by cases ho), ⟨rfl, by decide, rfl, by decide⟩, fun o ho => (by cases ho), fun o ho => (by cases ho)⟩⟩
  unfold fillF
  rw [if_pos ho]
