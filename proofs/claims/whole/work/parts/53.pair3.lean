theorem p_wipe {Y : Yt} {M : Mm} (h : Sim M) : Pr Y yX6_wipe wsX6_wipe { frames := 1, cells := 0, slots := 0, locals := 21 } yX7_wipe wsX7_wipe { frames := 0, cells := 0, slots := 0, locals := 0 } [] M := by
  have h0 := h
  obtain ⟨⟨n, hv, hb⟩, ⟨k, hk1, hk2, hk3, hk4⟩, hsl, ⟨l, hl1, hl2, hl3, hl4⟩⟩ := h0
  have hz := hv.1
  have hz2 := hv.2.1
  have hn := hv.2.2.1
  have hw := hv.2.2.2.2.2.2.2.2
  have hw2 := hv.wf
  have f1 := f_wipe (Y := Y) (M := M)
  have r1 := r_wipe (Y := Y) (M := mset M 30 1 0) (l := l) (by rw [mset_n (by decide)]; exact hl3)
  rw [hl2] at f1
  refine ⟨_, _, _, f1, r1, sim_p (M := M) rfl (fun k a b c d e f g => by rw [mset_n f, mset_n c]) (by rw [mset_s, upd_n (by decide), mset_n (by decide)]) ⟨0, Nat.zero_le _, ?_, ?_, fun i hi => absurd hi (by omega)⟩ h⟩
  · rw [mset_n (by decide), mset_s, upd_s]; rfl
  · rw [mset_s, upd_s]; rfl
theorem p_put {Y : Yt} {M : Mm} (h : Sim M) (x : Int64) : Pr Y yX6_put wsX6_put { frames := 2, cells := 0, slots := 0, locals := 45 } yX7_put wsX7_put { frames := 1, cells := 0, slots := 0, locals := 22 } [.long x] M := by
  have h0 := h
  obtain ⟨⟨n, hv, hb⟩, ⟨k, hk1, hk2, hk3, hk4⟩, hsl, ⟨l, hl1, hl2, hl3, hl4⟩⟩ := h0
  have hz := hv.1
  have hz2 := hv.2.1
  have hn := hv.2.2.1
  have hw := hv.2.2.2.2.2.2.2.2
  have hw2 := hv.wf
  rcases e_put x with ⟨g, hg8, hg, hp⟩ | ⟨hg, hp⟩
  · rcases Nat.eq_zero_or_pos g with g0 | g0
    · subst g0
      exact ⟨_, _, _, f_put_bad hg, r_put_bad (Or.inl (by rw [hp])), h⟩
    · by_cases hlg : l + g ≤ 80
      · have q6 : (apM M x l g g).1 270 6 = nI l := by unfold apM; rw [mset_n (by decide), mrow_n (by decide)]; exact hl3
        refine ⟨_, _, _, f_put hl2 hg g0 hg8 hlg, r_put q6 hp g0 hg8 hlg, sim_p (M := M) rfl (fun k a b c d e f k5 => ?_) ?_ ⟨l + g, hlg, ?_, ?_, fun i hi => ?_⟩ h⟩
        · unfold apQM apM
          rw [mset_n f, mrow_n (by omega), mset_n c, mrow_n d]
        · unfold apQM apM
          rw [mset_s, upd_n (by decide), mrow_n (by decide), mset_n (by decide), mrow_n (by decide)]
        · unfold apQM apM
          rw [mset_n (by decide), mrow_n (by decide), mset_s, upd_s]
        · exact apQ_6
        · have r1 : (apQM (apM M x l g g) x l g g).1 31 = apR M x l g g := by unfold apQM apM; rw [mset_n (by decide), mrow_n (by decide), mset_n (by decide), mrow_s]
          have r2 : (apQM (apM M x l g g) x l g g).1 275 = apQ (apM M x l g g) x l g g := by unfold apQM; rw [mset_n (by decide), mrow_s]
          have r3 : (apM M x l g g).1 275 = M.1 275 := by unfold apM; rw [mset_n (by decide), mrow_n (by decide)]
          rw [r1, r2]
          unfold apR apQ
          rw [r3]
          by_cases c : l ≤ i
          · rw [if_pos ⟨c, hi⟩, if_pos ⟨c, hi⟩]
            exact ⟨rfl, in_nI (sn_in hg8 8 0 rfl hg _ (Nat.zero_le _) (by omega))⟩
          · rw [if_neg (fun q => c q.1), if_neg (fun q => c q.1)]
            exact hl4 i (by omega)
      · exact ⟨_, _, _, f_put_many hl2 hg g0 hg8 hl1 (by omega), r_put_many hl3 hp g0 hg8 hl1 (by omega), h⟩
  · exact ⟨_, _, _, f_put_bad hg, r_put_bad (Or.inr hp), h⟩
