/-! 98: the pure statement -/
theorem dr_pure_ok : dr_pure := by
  intro Lx xs hL
  obtain ⟨b, s2, s3, sm, h1, h2, h3, h4⟩ := first_room (r_0 Lx xs)
  obtain ⟨s9, h5⟩ := law_p (xs := xs) hL 512 dr_N 1 (s_all (s_room s3 (r_0 Lx xs)) sm) (r0 b) (by omega) (by unfold dr_N; omega) (by omega) h4 (by show 0 + 30 * 512 ≤ 20000; omega)
  exact ⟨s2, s3, sm, s9, h1, h2, h3, h5⟩
