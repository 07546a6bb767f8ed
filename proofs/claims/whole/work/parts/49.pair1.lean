theorem p_count {Y : Yt} {M : Mm} (h : Sim M) (w : Int32) : Pr Y yX6_count wsX6_count { frames := 5, cells := 0, slots := 0, locals := 108 } yX7_count wsX7_count { frames := 5, cells := 0, slots := 0, locals := 107 } [.int w] M := by
  have h0 := h
  obtain ⟨⟨n, hv, hb⟩, ⟨k, hk1, hk2, hk3, hk4⟩, hsl, ⟨l, hl1, hl2, hl3, hl4⟩⟩ := h0
  have hz := hv.1
  have hz2 := hv.2.1
  have hn := hv.2.2.1
  have hw := hv.2.2.2.2.2.2.2.2
  have hw2 := hv.wf
  exact ⟨_, _, _, f_count hz hn hw, by rw [e_co hv (by rw [hl2, hl3]) (by rw [hk2, hk3])]; exact r_count hz2 hn hw2, sim_q sq_lk h⟩
theorem p_points {Y : Yt} {M : Mm} (h : Sim M) (w : Int32) : Pr Y yX6_points wsX6_points { frames := 5, cells := 0, slots := 0, locals := 108 } yX7_points wsX7_points { frames := 5, cells := 0, slots := 0, locals := 107 } [.int w] M := by
  have h0 := h
  obtain ⟨⟨n, hv, hb⟩, ⟨k, hk1, hk2, hk3, hk4⟩, hsl, ⟨l, hl1, hl2, hl3, hl4⟩⟩ := h0
  have hz := hv.1
  have hz2 := hv.2.1
  have hn := hv.2.2.1
  have hw := hv.2.2.2.2.2.2.2.2
  have hw2 := hv.wf
  exact ⟨_, _, _, f_points hz hn hw, by rw [e_po hv]; exact r_points hz2 hn hw2, sim_q sq_lk h⟩
theorem p_share {Y : Yt} {M : Mm} (h : Sim M) (t : Int32) : Pr Y yX6_share wsX6_share { frames := 4, cells := 0, slots := 0, locals := 88 } yX7_share wsX7_share { frames := 5, cells := 0, slots := 0, locals := 107 } [.int t] M := by
  have h0 := h
  obtain ⟨⟨n, hv, hb⟩, ⟨k, hk1, hk2, hk3, hk4⟩, hsl, ⟨l, hl1, hl2, hl3, hl4⟩⟩ := h0
  have hz := hv.1
  have hz2 := hv.2.1
  have hn := hv.2.2.1
  have hw := hv.2.2.2.2.2.2.2.2
  have hw2 := hv.wf
  by_cases t0 : t = 0 ∨ t = 1
  · have ti : inv t 0 1 = true := by rcases t0 with g | g <;> rw [g] <;> decide
    exact ⟨_, _, _, f_share hz hn hw t0, by rw [e_sh hv]; exact r_share hz2 hn hw2 ti, sim_q sq_lk h⟩
  · have ti : inv t 0 1 = false := by
      rw [← Bool.not_eq_true]
      intro g
      exact t0 (inv01 g)
    exact ⟨_, _, _, f_share_no (fun g => t0 (Or.inl g)) (fun g => t0 (Or.inr g)), r_share_no ti, h⟩
theorem p_best {Y : Yt} {M : Mm} (h : Sim M) (t : Int32) : Pr Y yX6_bestAnswer wsX6_bestAnswer { frames := 3, cells := 0, slots := 0, locals := 68 } yX7_bestAnswer wsX7_bestAnswer { frames := 6, cells := 0, slots := 0, locals := 129 } [.int t] M := by
  have h0 := h
  obtain ⟨⟨n, hv, hb⟩, ⟨k, hk1, hk2, hk3, hk4⟩, hsl, ⟨l, hl1, hl2, hl3, hl4⟩⟩ := h0
  have hz := hv.1
  have hz2 := hv.2.1
  have hn := hv.2.2.1
  have hw := hv.2.2.2.2.2.2.2.2
  have hw2 := hv.wf
  by_cases t0 : t = 0 ∨ t = 1
  · have ti : inv t 0 1 = true := by rcases t0 with g | g <;> rw [g] <;> decide
    exact ⟨_, _, _, f_best t0 hz hn hw, by rw [e_best hv]; exact r_best ti hz2 hn hw2, sim_q (sq_rb n) h⟩
  · have ti : inv t 0 1 = false := by
      rw [← Bool.not_eq_true]
      intro g
      exact t0 (inv01 g)
    exact ⟨_, _, _, f_best_bad (fun g => t0 (Or.inl g)) (fun g => t0 (Or.inr g)), r_best_bad ti, h⟩
theorem p_of {Y : Yt} {M : Mm} (h : Sim M) (x w : Int32) : Pr Y yX6_of wsX6_of { frames := 5, cells := 0, slots := 0, locals := 109 } yX7_of wsX7_of { frames := 5, cells := 0, slots := 0, locals := 107 } [.int x, .int w] M := by
  have h0 := h
  obtain ⟨⟨n, hv, hb⟩, ⟨k, hk1, hk2, hk3, hk4⟩, hsl, ⟨l, hl1, hl2, hl3, hl4⟩⟩ := h0
  have hz := hv.1
  have hz2 := hv.2.1
  have hn := hv.2.2.1
  have hw := hv.2.2.2.2.2.2.2.2
  have hw2 := hv.wf
  rcases pk_ix x (show n < 2 ^ 31 by omega) with g | g | ⟨i, hi, ei⟩
  · exact ⟨_, _, _, f_of_no hz hn (Or.inl g), r_of_no hz2 (Or.inl g), h⟩
  · exact ⟨_, _, _, f_of_no hz hn (Or.inr g), r_of_no hz2 (Or.inr g), h⟩
  · subst ei
    exact ⟨_, _, _, f_of hz hn hw hi, by rw [e_of hv hb hi]; exact r_of hz2 hn hw2 hi, sim_q sq_lk h⟩
theorem p_changesIn {Y : Yt} {M : Mm} (h : Sim M) : Pr Y yX6_changesIn wsX6_changesIn { frames := 4, cells := 0, slots := 0, locals := 88 } yX7_changesIn wsX7_changesIn { frames := 5, cells := 0, slots := 0, locals := 107 } [] M := by
  have h0 := h
  obtain ⟨⟨n, hv, hb⟩, ⟨k, hk1, hk2, hk3, hk4⟩, hsl, ⟨l, hl1, hl2, hl3, hl4⟩⟩ := h0
  have hz := hv.1
  have hz2 := hv.2.1
  have hn := hv.2.2.1
  have hw := hv.2.2.2.2.2.2.2.2
  have hw2 := hv.wf
  exact ⟨_, _, _, f_changesIn hz hn hw, by rw [(e_cF hv hb).1]; exact r_changesIn hz2 hn hw2, sim_q (sq_ci (e_cF hv hb).2) h⟩
theorem p_leastPages {Y : Yt} {M : Mm} (h : Sim M) : Pr Y yX6_leastPages wsX6_leastPages { frames := 2, cells := 0, slots := 0, locals := 46 } yX7_leastPages wsX7_leastPages { frames := 2, cells := 0, slots := 0, locals := 43 } [] M := by
  have h0 := h
  obtain ⟨⟨n, hv, hb⟩, ⟨k, hk1, hk2, hk3, hk4⟩, hsl, ⟨l, hl1, hl2, hl3, hl4⟩⟩ := h0
  have hz := hv.1
  have hz2 := hv.2.1
  have hn := hv.2.2.1
  have hw := hv.2.2.2.2.2.2.2.2
  have hw2 := hv.wf
  exact ⟨_, _, _, f_leastPages hz hn hw, by rw [e_lp hv]; exact r_leastPages hz2 hn, h⟩
