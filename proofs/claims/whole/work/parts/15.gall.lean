/-! the beginning, and all calls -/
def oc0 : Nat → Int32 := fw (fun _ => -1) (fun _ => 0) 48
def sp0 : Nat → Int32 := fw (fun _ => -1) (fun _ => 0) 10
theorem mm_k : ∀ b, b < 16 → mm0 (24 + 3 * b) = 0 ∧ mm0 (25 + 3 * b) = 0 ∧ mm0 (26 + 3 * b) = 0 := by decide +kernel
theorem mm_c : ∀ j, j < 6 → mm0 (6 + 3 * j) = 0 ∧ mm0 (7 + 3 * j) = 0 ∧ mm0 (8 + 3 * j) = bI (bt 0 j) := by decide +kernel
theorem mm_s : ∀ j, j < 10 → mm0 (72 + j) = -1 := by decide +kernel
theorem mm_h : mm0 0 = 0 ∧ mm0 1 = -5 ∧ mm0 2 = nI 0 ∧ mm0 3 = 0 ∧ mm0 4 = 1 ∧ mm0 5 = nI 0 := by decide +kernel
theorem g_init : hy_init Gd oc0 sp0 := by
  refine ⟨fill_fw (by omega), fill_fw (by omega), ⟨0, 0, rfl, rfl, by omega, ?_, ?_, ?_, ?_⟩, ⟨rfl, Or.inl rfl⟩, fun _ _ => rfl, ⟨rfl, ⟨0, by omega, rfl⟩, fun _ _ => ⟨rfl, 0, by omega, rfl⟩⟩, fun _ _ => ⟨rfl, rfl, Or.inl rfl, ⟨0, by omega, rfl⟩, fun _ _ => rfl⟩, fun j hj => Or.inl (fw_at 10 j hj)⟩
  · exact ⟨mm_h.1, mm_h.2.1, mm_h.2.2.1, mm_h.2.2.2.1, mm_h.2.2.2.2.1, by omega, mm_h.2.2.2.2.2, fun b hb => (mm_k b hb).1, fun b hb => (mm_k b hb).2.1, fun b hb => (mm_k b hb).2.2, fun j hj => (mm_c j hj).1, fun j hj => (mm_c j hj).2.1, fun j hj => (mm_c j hj).2.2, fun j hj => (mm_s j hj).trans (show sp0 j = -1 from fw_at (val := fun _ => -1) (wm := fun _ => 0) 10 j hj).symm⟩
  · refine ⟨⟨by omega, fun b hb => absurd hb (by omega)⟩, fun a b ha => absurd ha (by omega), OC_mk (fun b c hb => absurd hb (by omega)) (fun c hc _ => fw_at 48 c hc)⟩
  · exact fun a ha => absurd ha (by omega)
  · exact ⟨⟨by decide, by decide⟩, fun j hj => ⟨⟨0, by omega, rfl⟩, 0, by omega, rfl⟩⟩
theorem g_all : hy_all Gd := ⟨g_block, g_blockOf, g_turn, g_take, g_on, g_water, g_candle, g_lit, g_cold, g_warmth, g_light, g_hours, g_fall, g_loose, g_weak, g_ahead, g_goes, g_holds, g_deal, g_bears, g_needs, g_mend, g_whose, g_drawing, g_order, g_steps, g_shakes, g_dance, g_tune, g_wind, g_seed, g_feed, g_wipe, g_text, g_hold, g_as, g_sheet, g_write, g_copy, g_load, g_judge, g_image, g_undo, g_tear, g_count, g_status⟩
