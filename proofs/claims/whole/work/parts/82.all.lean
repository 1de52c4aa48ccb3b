-- ===== all 32 steps =====
theorem ro_1 {gC gR : Mm} {f1 f2 : Option Int32} (hR : Rel gC gR) (h : ∃ r, f1 = some r ∧ f2 = some r) : ∃ (gC1 gR1 : Mm) (r : Int32), (f1 = some r ∧ gC1 = gC) ∧ (f2 = some r ∧ gR1 = gR) ∧ Rel gC1 gR1 := by
  obtain ⟨r, r1, r2⟩ := h
  exact ⟨gC, gR, r, ⟨r1, rfl⟩, ⟨r2, rfl⟩, hR⟩
theorem Rel.ps {gC gR : Mm} {p : Prop} (h : Rel gC gR) (f : ∀ nv nf ns, R3 gC gR nv nf ns → p) : p := by
  obtain ⟨nv, nf, ns, h⟩ := h
  exact f nv nf ns h
theorem all_Rel : SH_all Rel :=
  ⟨fun _ _ a h => sc_stand h a, fun _ _ a b h => sc_set h a b, fun _ _ a b c d h => sc_visit h a b c d, fun _ _ a b h => sc_late h a b, fun _ _ a b h => sc_wish h a b, fun _ _ a b c d h => sc_feed h a b c d, fun _ _ a h => sc_run h a,
   fun _ _ a b h => ro_1 h (h.ps fun _ _ _ q => sr_visitTold q.1 a b), fun _ _ a b h => ro_1 h (h.ps fun _ _ _ q => sr_cause q.1 a b), fun _ _ a b h => ro_1 h (h.ps fun _ _ _ q => sr_feedTold q.1 a b), fun _ _ a b h => ro_1 h (h.ps fun _ _ _ q => sr_standTold q.1 a b), fun _ _ a b h => ro_1 h (h.ps fun _ _ _ q => sr_runwayTold q.1 a b), fun _ _ a b h => ro_1 h (h.ps fun _ _ _ q => sr_ticks q.1 a b), fun _ _ a b h => ro_1 h (h.ps fun _ _ _ q => sr_kindTold q.1 a b), fun _ _ a b h => ro_1 h (h.ps fun _ _ _ q => sr_trucks q.1 a b),
   fun _ _ a b h => sc_beside h a b, fun _ _ a b h => sc_plan h a b, fun _ _ a h => ro_1 h (h.ps fun _ _ _ q => sr_planned q a), fun _ _ h => sc_settle h, fun _ _ a b h => sc_estimate h a b, fun _ _ a b h => ro_1 h (h.ps fun _ _ _ q => sr_expects q a b), fun _ _ a b h => ro_1 h (h.ps fun _ _ _ q => sr_misses q a b), fun _ _ w a h => sc_feedTape h w a, fun _ _ h => sc_text h, fun _ _ a h => sc_force h a, fun _ _ a b h => sc_tells h a b, fun _ _ a h => ro_1 h (h.ps fun _ _ _ q => sr_count q a), fun _ _ a b c h => sc_sheet h a b c, fun _ _ a b c h => sc_cell h a b c, fun _ _ a b c d e h => sc_copy h a b c d e, fun _ _ a b c d h => sc_visits h a b c d, fun _ _ a b h => ro_1 h (h.ps fun _ _ _ q => sr_taken q.1 a b)⟩
