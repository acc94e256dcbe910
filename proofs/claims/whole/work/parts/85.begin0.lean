/-! ===== the beginning ===== -/
theorem rel_init : Rel jC0 jM0 := by
  refine ⟨fun i _ _ => ⟨rfl, rfl⟩, 0, 0, 0, ?_, ?_⟩
  · refine ⟨by decide, by decide, by decide, rfl, rfl, rfl, rfl, rfl, rfl, fun a ha => absurd ha (by omega), fun w hw => absurd hw (by omega), fun a s ha hs => ?_, fun q hq => ?_, fun t ht => absurd ht (by omega)⟩
    · have e7 : gA jC0 7 (2 * a + s) = -1 := by
        show jfill (fun _ => 0) 160 (-1) (2 * a + s) = -1
        unfold jfill
        rw [if_pos (by omega)]
      have e8 : gA jC0 8 (2 * a + s) = -1 := by
        show jfill (fun _ => 0) 160 (-1) (2 * a + s) = -1
        unfold jfill
        rw [if_pos (by omega)]
      have ew : wl jM0 a s 0 = [] := rfl
      rw [ew, e7, e8]
      exact ⟨rfl, Or.inl ⟨rfl, rfl⟩⟩
    · refine Or.inl ⟨?_, fun b hb => absurd hb (by omega)⟩
      show jfill (fun _ => 0) 100 (-1) q = -1
      unfold jfill
      rw [if_pos (by omega)]
  · exact ⟨rfl, Or.inl rfl, fun h => absurd h (by decide)⟩
theorem steps_all : JSteps Rel := ⟨st_act, st_way, st_token, st_clear, st_run, st_ticks, st_about, st_end, st_fired, st_cell, st_told, st_beside⟩
