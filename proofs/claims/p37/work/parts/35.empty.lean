/-- a series without points -/
def uE : SrS := ((0, (fun _ => 0), (fun _ => 0), (fun _ => 0), 0, 0, -1), ((0, fun _ => 0), (0, fun _ => 0)))
theorem uE_ok : SrOk uE := by
  refine ⟨⟨by decide, by decide⟩, ⟨by decide, by decide, by decide, rfl⟩, ⟨by decide, by decide⟩, fun b h0 h1 => ?_, fun j => ⟨by show (0 : Int) ≤ 0; omega, by show (0 : Int) ≤ 99999; omega⟩, fun j => ⟨by show (-100000 : Int) ≤ 0; omega, by show (0 : Int) ≤ 100000; omega⟩, ⟨by decide, by decide⟩, ⟨by decide, by decide⟩, fun j => ?_, fun j => ?_⟩
  · have h2 : b < 0 := h1
    omega
  · show rI 0
    decide
  · show rI 0
    decide
theorem uE_inv (wd fo : Int) : SInv wd fo 0 0 uE := by
  have hz : ∀ x : Int, ¬ (0 ≤ x ∧ x < 0) := fun x h => by omega
  refine ⟨⟨fun i j h0 h1 h2 => ?_, fun i h0 h1 => ?_, by decide⟩, ⟨fun i h0 h1 => ?_, fun i h0 h1 => ?_⟩, fun b h0 h1 => ?_, ⟨⟨fun i j h0 h1 h2 => ?_, fun i h0 h1 => ?_, fun i h0 h1 => ?_⟩, ⟨fun i j h0 h1 h2 => ?_, fun i h0 h1 => ?_, fun i h0 h1 => ?_⟩, ⟨by decide, by decide⟩, fun i j h0 h1 h2 h3 => ?_⟩, fun j h0 h1 => ?_, ⟨fun i h0 h1 => ?_, fun i h0 h1 => ?_⟩, by decide⟩
  · have h3 : j < 0 := h2; omega
  · have h3 : i < 0 := h1; omega
  · have h3 : i < 0 := h1; omega
  · have h3 : i < 0 := h1; have h4 : 0 ≤ i := h0; omega
  · have h3 : b < 0 := h1; omega
  · have h3 : j < 0 := h2; omega
  · have h3 : i < 0 := h1; omega
  · have h3 : i < 0 := h1; omega
  · have h3 : j < 0 := h2; omega
  · have h3 : i < 0 := h1; omega
  · have h3 : i < 0 := h1; omega
  · have h4 : i < 0 := h1; omega
  · have h3 : j < 0 := h1; omega
  · have h3 : i < 0 := h1; omega
  · have h3 : i < 0 := h1; omega
theorem m_fz {v : Int} (h : 0 ≤ v ∧ v ≤ 1) : fits FieldType.boolean (Value.int (iI v)) = true := by
  rcases (show v = 0 ∨ v = 1 by omega) with rfl | rfl <;> decide
