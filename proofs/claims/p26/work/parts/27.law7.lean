theorem cites_c {i : Nat} {x : Int32} (hi : i < 10) (h : x = 0 ∨ ∃ j, j < 10 ∧ x = (1 : Int32) <<< (nI j &&& 31)) : ∃ c, c < 1024 ∧ (1 : Int32) <<< (nI i &&& 31) ||| x = nI c := by
  have h1 : ∀ i, i < 10 → 2 ^ i < 1024 ∧ (1 : Int32) <<< (nI i &&& 31) ||| 0 = nI (2 ^ i) := by decide +kernel
  have h2 : ∀ i, i < 10 → ∀ j, j < 10 → (2 ^ i ||| 2 ^ j) < 1024 ∧ (1 : Int32) <<< (nI i &&& 31) ||| (1 : Int32) <<< (nI j &&& 31) = nI (2 ^ i ||| 2 ^ j) := by decide +kernel
  rcases h with rfl | ⟨j, hj, rfl⟩
  · exact ⟨_, h1 i hi⟩
  · exact ⟨_, h2 i hi j hj⟩
theorem wd_T {M : Mm} {n la dy a : Nat} (h : LI M n la dy) : (mset M 276 a 1).1 278 0 = (mset M (1 + 2 + a) 6 1).1 1 4 ∧ (mset M 276 a 1).1 278 1 = (mset M (1 + 2 + a) 6 1).1 1 5 ∧ (mset M 276 a 1).1 278 2 = (mset M (1 + 2 + a) 6 1).1 1 2 ∧ (mset M 276 a 1).1 278 3 = nI n ∧ (mset M 276 a 1).1 278 4 = (mset M (1 + 2 + a) 6 1).1 1 3 := by
  rw [mset_n (by decide), mset_n (show 1 ≠ 1 + 2 + a by omega)]
  exact h.2.2.2.2
set_option maxRecDepth 100000 in
set_option maxHeartbeats 8000000 in
theorem l_law_claim {Y : Yt} {X : XT} {M : Mm} (hX : vOK Y X iL_law 22 "PointAnswersLaw" room_1 (some .boolean)) {b e n la dy : Nat} (hk : ∀ N n2 la2 dy2, LI N n2 la2 dy2 → V Y X N 948 [some (.ref b), some (.ref (Y.2.2.2.1 0)), some (.ref (Y.2.2.2.1 270)), some (.ref (Y.2.2.2.1 271)), some (.ref (Y.2.2.2.1 272)), some (.ref (Y.2.2.2.1 273)), some (.ref (Y.2.2.2.1 274)), some (.ref (Y.2.2.2.1 275)), some (.ref (Y.2.2.2.1 276)), some (.ref (Y.2.2.2.1 277)), some (.ref (Y.2.2.2.1 278)), some (.int (nI e)), none, none, none, none, some (.int 1), none, none, none, none, none] []) (hL : LI M n la dy) {v : Int32} {kd a p c : Nat} (hn24 : n < 24) (hkd : kd < 9) (hp : 1 ≤ p ∧ p ≤ 9) (hc : c < 1024) : V Y X M 248 [some (.ref b), some (.ref (Y.2.2.2.1 0)), some (.ref (Y.2.2.2.1 270)), some (.ref (Y.2.2.2.1 271)), some (.ref (Y.2.2.2.1 272)), some (.ref (Y.2.2.2.1 273)), some (.ref (Y.2.2.2.1 274)), some (.ref (Y.2.2.2.1 275)), some (.ref (Y.2.2.2.1 276)), some (.ref (Y.2.2.2.1 277)), some (.ref (Y.2.2.2.1 278)), some (.int (nI e)), some (.int v), some (.int (nI kd)), some (.int (nI n)), some (.int (nI a)), some (.int 1), some (.int 0), some (.int (nI p)), some (.int (nI c)), none, none] [] := by
  have hn : n ≤ 24 := hL.1.2.1
  have hw := hL.1.2.2.1
  have hS := hL.2.2.1
  have h2 : M.1 1 2 = nI dy := hL.1.2.2.2.2.2.2.2.2.1
  have hdy : dy ≤ 999 := hL.1.2.2.2.2.2.2.2.2.2.1
  have hT2 : M.1 278 2 = nI dy := hL.2.2.2.2.2.2.1.trans h2
  have hT3 : M.1 278 3 = nI n := hL.2.2.2.2.2.2.2.1
  have hT4 : M.1 278 4 = M.1 1 3 := hL.2.2.2.2.2.2.2.2
  refine v_iload hX 131 rfl rfl ?_
  refine v_if_eq hX (tgt := 261) 132 rfl (by decide) (fun c250 => ?_) (fun c250 => absurd rfl c250)
  refine v_iconst hX (v := 1) 137 rfl (by decide) ?_
  refine v_goto hX (tgt := 266) 138 rfl (by decide) ?_
  refine v_istore hX 140 rfl (Nat.le_of_ble_eq_true rfl) rfl ?_
  refine v_iload hX 141 rfl rfl ?_
  refine v_if_eq hX (tgt := 286) 142 rfl (by decide) (fun c270 => ?_) (fun c270 => absurd rfl c270)
  refine v_aload_n hX 1 149 rfl rfl rfl ?_
  refine v_iload hX 150 rfl rfl ?_
  refine v_iconst hX (v := 2) 151 rfl (by decide) ?_
  refine v_irem hX (by decide) (nI_mod (a := kd) (b := 2) (by omega) (by decide)) 152 rfl ?_
  refine v_iload hX 153 rfl rfl ?_
  refine v_iload hX 154 rfl rfl ?_
  obtain ⟨N, hF, hNr, hNL⟩ := c_claim (Y := Y) (s := kd % 2) (p := p) (c := c) hL hn24 (by omega) hp hc
  refine v_callV hX 3 (by decide) rfl rfl (hF) tw_252 tw_249 tw_250 tw_251 tw_39 (by decide +kernel) ⟨⟨rfl, rfl⟩, Nat.le_of_ble_eq_true rfl, Nat.le_of_ble_eq_true rfl⟩ rfl (Nat.le_of_ble_eq_true rfl) rfl rfl 155 rfl ?_
  refine v_istore hX 156 rfl (Nat.le_of_ble_eq_true rfl) rfl ?_
  refine v_iload hX 157 rfl rfl ?_
  refine v_iload hX 158 rfl rfl ?_
  refine v_if_eq hX (tgt := 312) 159 rfl (by decide) (fun c304 => absurd c304 (by decide)) (fun c304 => ?_)
  refine v_iload hX 160 rfl rfl ?_
  refine v_goto hX (tgt := 314) 161 rfl (by decide) ?_
  refine v_icmp_ne hX (tgt := 321) 163 rfl (by decide) (fun c314 => absurd c314 (fun h => h rfl)) (fun c314 => ?_)
  refine v_iconst hX (v := 1) 164 rfl (by decide) ?_
  refine v_goto hX (tgt := 322) 165 rfl (by decide) ?_
  refine v_istore hX 167 rfl (Nat.le_of_ble_eq_true rfl) rfl ?_
  refine v_iload hX 168 rfl rfl ?_
  refine v_if_eq hX (tgt := 406) 169 rfl (by decide) (fun c326 => absurd c326 (by decide)) (fun c326 => ?_)
  refine v_aload_n hX 2 170 rfl rfl rfl ?_
  refine v_iload hX 171 rfl rfl ?_
  refine v_iload hX 172 rfl rfl ?_
  refine v_if_eq hX (tgt := 346) 173 rfl (by decide) (fun c334 => ?_) (fun c334 => absurd rfl c334)
  refine v_iload hX 180 rfl rfl ?_
  refine v_iconst hX (v := 2) 181 rfl (by decide) ?_
  refine v_irem hX (by decide) (nI_mod (a := kd) (b := 2) (by omega) (by decide)) 182 rfl ?_
  refine v_iasg hX aC_270 (vp_in_nI (by omega) (by decide)) 183 rfl ?_
  rw [nI_clamp (n := n) (by omega), Nat.zero_add]
  refine v_aload_n hX 3 184 rfl rfl rfl ?_
  refine v_iload hX 185 rfl rfl ?_
  refine v_iload hX 186 rfl rfl ?_
  refine v_iasg hX aC_271 (vp_in_nI (by omega) (by decide)) 187 rfl ?_
  rw [nI_clamp (n := n) (by omega), Nat.zero_add]
  refine v_aload hX 188 rfl rfl ?_
  refine v_iload hX 189 rfl rfl ?_
  refine v_aload hX 190 rfl rfl ?_
  refine v_iconst hX (v := 2) 191 rfl (by decide) ?_
  refine v_ialg hX aC_278 (vp_in_nI (n := 2) (by decide) (by decide)) 192 rfl ?_
  rw [show (mset (mset N 270 n (nI (kd % 2))) 271 n (nI p)).1 278 (0 + Int32.toNatClampNeg 2) = nI dy from (congrFun (hNr 278 (by decide)) 2).trans hT2]
  refine v_iasg hX aC_272 (vp_in_nI (by omega) (by decide)) 193 rfl ?_
  rw [nI_clamp (n := n) (by omega), Nat.zero_add]
  refine v_aload hX 194 rfl rfl ?_
  refine v_iload hX 195 rfl rfl ?_
  refine v_aload hX 196 rfl rfl ?_
  refine v_iconst hX (v := 2) 197 rfl (by decide) ?_
  refine v_ialg hX aC_278 (vp_in_nI (n := 2) (by decide) (by decide)) 198 rfl ?_
  rw [show (mset (mset (mset N 270 n (nI (kd % 2))) 271 n (nI p)) 272 n (nI dy)).1 278 (0 + Int32.toNatClampNeg 2) = nI dy from (congrFun (hNr 278 (by decide)) 2).trans hT2]
  refine v_iasg hX aC_273 (vp_in_nI (by omega) (by decide)) 199 rfl ?_
  rw [nI_clamp (n := n) (by omega), Nat.zero_add]
  refine v_aload hX 200 rfl rfl ?_
  refine v_iload hX 201 rfl rfl ?_
  refine v_iload hX 202 rfl rfl ?_
  refine v_if_eq hX (tgt := 389) 203 rfl (by decide) (fun c381 => ?_) (fun c381 => absurd rfl c381)
  refine v_iconst hX (v := (-1)) 206 rfl (by decide) ?_
  refine v_iasg hX aC_274 (vp_in_nI (by omega) (by decide)) 207 rfl ?_
  rw [nI_clamp (n := n) (by omega), Nat.zero_add]
  refine v_aload hX 208 rfl rfl ?_
  refine v_iload hX 209 rfl rfl ?_
  refine v_iload hX 210 rfl rfl ?_
  refine v_iasg hX aC_275 (vp_in_nI (by omega) (by decide)) 211 rfl ?_
  rw [nI_clamp (n := n) (by omega), Nat.zero_add]
  refine v_aload hX 212 rfl rfl ?_
  refine v_iconst hX (v := 3) 213 rfl (by decide) ?_
  refine v_dup2 hX 214 rfl rfl rfl ?_
  refine v_ialg hX aC_278 (vp_in_nI (n := 3) (by decide) (by decide)) 215 rfl ?_
  rw [show (mset (mset (mset (mset (mset (mset N 270 n (nI (kd % 2))) 271 n (nI p)) 272 n (nI dy)) 273 n (nI dy)) 274 n (-1)) 275 n (nI c)).1 278 (0 + Int32.toNatClampNeg 3) = nI n from (congrFun (hNr 278 (by decide)) 3).trans hT3]
  refine v_iconst hX (v := 1) 216 rfl (by decide) ?_
  refine v_iadd hX 217 rfl ?_
  refine v_iasg hX aC_278 (vp_in_nI (n := 3) (by decide) (by decide)) 218 rfl ?_
  refine V.mem (M2 := stN9 N n dy (nI (kd % 2)) (nI p) (-1) (nI c)) (by rw [nI_1]; rfl) ?_
  refine v_goto hX (tgt := 948) 219 rfl (by decide) ?_
  exact V.sub (hk _ _ _ _ hNL) rfl ⟨rfl, rfl, rfl, rfl, rfl, rfl, rfl, rfl, rfl, rfl, rfl, rfl, rfl, trivial⟩
set_option maxRecDepth 100000 in
set_option maxHeartbeats 8000000 in
theorem l_law_answer {Y : Yt} {X : XT} {M : Mm} (hX : vOK Y X iL_law 22 "PointAnswersLaw" room_1 (some .boolean)) {b e n la dy : Nat} (hk : ∀ N n2 la2 dy2, LI N n2 la2 dy2 → V Y X N 948 [some (.ref b), some (.ref (Y.2.2.2.1 0)), some (.ref (Y.2.2.2.1 270)), some (.ref (Y.2.2.2.1 271)), some (.ref (Y.2.2.2.1 272)), some (.ref (Y.2.2.2.1 273)), some (.ref (Y.2.2.2.1 274)), some (.ref (Y.2.2.2.1 275)), some (.ref (Y.2.2.2.1 276)), some (.ref (Y.2.2.2.1 277)), some (.ref (Y.2.2.2.1 278)), some (.int (nI e)), none, none, none, none, some (.int 1), none, none, none, none, none] []) (hL : LI M n la dy) {v : Int32} {kd a p c : Nat} (hn24 : n < 24) (ha : a < n) (hg : cp M 1 a 6 = 0) (hp : 1 ≤ p ∧ p ≤ 9) (hc : c < 1024) : V Y X M 248 [some (.ref b), some (.ref (Y.2.2.2.1 0)), some (.ref (Y.2.2.2.1 270)), some (.ref (Y.2.2.2.1 271)), some (.ref (Y.2.2.2.1 272)), some (.ref (Y.2.2.2.1 273)), some (.ref (Y.2.2.2.1 274)), some (.ref (Y.2.2.2.1 275)), some (.ref (Y.2.2.2.1 276)), some (.ref (Y.2.2.2.1 277)), some (.ref (Y.2.2.2.1 278)), some (.int (nI e)), some (.int v), some (.int (nI kd)), some (.int (nI n)), some (.int (nI a)), some (.int 1), some (.int 1), some (.int (nI p)), some (.int (nI c)), none, none] [] := by
  have hn : n ≤ 24 := hL.1.2.1
  have hw := hL.1.2.2.1
  have hS := hL.2.2.1
  have h2 : M.1 1 2 = nI dy := hL.1.2.2.2.2.2.2.2.2.1
  have hdy : dy ≤ 999 := hL.1.2.2.2.2.2.2.2.2.2.1
  have hT2 : M.1 278 2 = nI dy := hL.2.2.2.2.2.2.1.trans h2
  have hT3 : M.1 278 3 = nI n := hL.2.2.2.2.2.2.2.1
  have hT4 : M.1 278 4 = M.1 1 3 := hL.2.2.2.2.2.2.2.2
  refine v_iload hX 131 rfl rfl ?_
  refine v_if_eq hX (tgt := 261) 132 rfl (by decide) (fun c250 => absurd c250 (by decide)) (fun c250 => ?_)
  refine v_aload hX 133 rfl rfl ?_
  refine v_iload hX 134 rfl rfl ?_
  refine v_ialg hX aC_276 (vp_in_nI (by omega) (by decide)) 135 rfl ?_
  rw [show M.1 276 (0 + (nI a).toNatClampNeg) = cp M 1 a 6 from by rw [nI_clamp (n := a) (by omega), Nat.zero_add]; exact (hS a ha).2.2.2.2.2.2]
  refine v_if_ne hX (tgt := 265) 136 rfl (by decide) (fun c258 => absurd c258 (fun h => h hg)) (fun c258 => ?_)
  refine v_iconst hX (v := 1) 137 rfl (by decide) ?_
  refine v_goto hX (tgt := 266) 138 rfl (by decide) ?_
  refine v_istore hX 140 rfl (Nat.le_of_ble_eq_true rfl) rfl ?_
  refine v_iload hX 141 rfl rfl ?_
  refine v_if_eq hX (tgt := 286) 142 rfl (by decide) (fun c270 => absurd c270 (by decide)) (fun c270 => ?_)
  refine v_aload_n hX 1 143 rfl rfl rfl ?_
  refine v_iload hX 144 rfl rfl ?_
  refine v_iload hX 145 rfl rfl ?_
  refine v_iload hX 146 rfl rfl ?_
  obtain ⟨N, hF, hNr, hNL⟩ := c_answer (Y := Y) (p := p) (c := c) hL hn24 ha hg hp hc
  refine v_callV hX 3 (by decide) rfl rfl (hF) tw_271 tw_268 tw_269 tw_270 tw_39 (by decide +kernel) ⟨⟨rfl, rfl⟩, Nat.le_of_ble_eq_true rfl, Nat.le_of_ble_eq_true rfl⟩ rfl (Nat.le_of_ble_eq_true rfl) rfl rfl 147 rfl ?_
  refine v_goto hX (tgt := 298) 148 rfl (by decide) ?_
  refine v_istore hX 156 rfl (Nat.le_of_ble_eq_true rfl) rfl ?_
  refine v_iload hX 157 rfl rfl ?_
  refine v_iload hX 158 rfl rfl ?_
  refine v_if_eq hX (tgt := 312) 159 rfl (by decide) (fun c304 => absurd c304 (by decide)) (fun c304 => ?_)
  refine v_iload hX 160 rfl rfl ?_
  refine v_goto hX (tgt := 314) 161 rfl (by decide) ?_
  refine v_icmp_ne hX (tgt := 321) 163 rfl (by decide) (fun c314 => absurd c314 (fun h => h rfl)) (fun c314 => ?_)
  refine v_iconst hX (v := 1) 164 rfl (by decide) ?_
  refine v_goto hX (tgt := 322) 165 rfl (by decide) ?_
  refine v_istore hX 167 rfl (Nat.le_of_ble_eq_true rfl) rfl ?_
  refine v_iload hX 168 rfl rfl ?_
  refine v_if_eq hX (tgt := 406) 169 rfl (by decide) (fun c326 => absurd c326 (by decide)) (fun c326 => ?_)
  refine v_aload_n hX 2 170 rfl rfl rfl ?_
  refine v_iload hX 171 rfl rfl ?_
  refine v_iload hX 172 rfl rfl ?_
  refine v_if_eq hX (tgt := 346) 173 rfl (by decide) (fun c334 => absurd c334 (by decide)) (fun c334 => ?_)
  refine v_iconst hX (v := 1) 174 rfl (by decide) ?_
  refine v_aload_n hX 2 175 rfl rfl rfl ?_
  refine v_iload hX 176 rfl rfl ?_
  refine v_ialg hX aC_270 (vp_in_nI (by omega) (by decide)) 177 rfl ?_
  rw [show N.1 270 (0 + (nI a).toNatClampNeg) = cp M 1 a 0 from by rw [nI_clamp (n := a) (by omega), Nat.zero_add, hNr 270 (by decide)]; exact (hS a ha).1]
  refine v_isub hX 178 rfl ?_
  refine v_goto hX (tgt := 350) 179 rfl (by decide) ?_
  refine v_iasg hX aC_270 (vp_in_nI (by omega) (by decide)) 183 rfl ?_
  rw [nI_clamp (n := n) (by omega), Nat.zero_add]
  refine v_aload_n hX 3 184 rfl rfl rfl ?_
  refine v_iload hX 185 rfl rfl ?_
  refine v_iload hX 186 rfl rfl ?_
  refine v_iasg hX aC_271 (vp_in_nI (by omega) (by decide)) 187 rfl ?_
  rw [nI_clamp (n := n) (by omega), Nat.zero_add]
  refine v_aload hX 188 rfl rfl ?_
  refine v_iload hX 189 rfl rfl ?_
  refine v_aload hX 190 rfl rfl ?_
  refine v_iconst hX (v := 2) 191 rfl (by decide) ?_
  refine v_ialg hX aC_278 (vp_in_nI (n := 2) (by decide) (by decide)) 192 rfl ?_
  rw [show (mset (mset N 270 n (1 - cp M 1 a 0)) 271 n (nI p)).1 278 (0 + Int32.toNatClampNeg 2) = nI dy from (congrFun (hNr 278 (by decide)) 2).trans hT2]
  refine v_iasg hX aC_272 (vp_in_nI (by omega) (by decide)) 193 rfl ?_
  rw [nI_clamp (n := n) (by omega), Nat.zero_add]
  refine v_aload hX 194 rfl rfl ?_
  refine v_iload hX 195 rfl rfl ?_
  refine v_aload hX 196 rfl rfl ?_
  refine v_iconst hX (v := 2) 197 rfl (by decide) ?_
  refine v_ialg hX aC_278 (vp_in_nI (n := 2) (by decide) (by decide)) 198 rfl ?_
  rw [show (mset (mset (mset N 270 n (1 - cp M 1 a 0)) 271 n (nI p)) 272 n (nI dy)).1 278 (0 + Int32.toNatClampNeg 2) = nI dy from (congrFun (hNr 278 (by decide)) 2).trans hT2]
  refine v_iasg hX aC_273 (vp_in_nI (by omega) (by decide)) 199 rfl ?_
  rw [nI_clamp (n := n) (by omega), Nat.zero_add]
  refine v_aload hX 200 rfl rfl ?_
  refine v_iload hX 201 rfl rfl ?_
  refine v_iload hX 202 rfl rfl ?_
  refine v_if_eq hX (tgt := 389) 203 rfl (by decide) (fun c381 => absurd c381 (by decide)) (fun c381 => ?_)
  refine v_iload hX 204 rfl rfl ?_
  refine v_goto hX (tgt := 390) 205 rfl (by decide) ?_
  refine v_iasg hX aC_274 (vp_in_nI (by omega) (by decide)) 207 rfl ?_
  rw [nI_clamp (n := n) (by omega), Nat.zero_add]
  refine v_aload hX 208 rfl rfl ?_
  refine v_iload hX 209 rfl rfl ?_
  refine v_iload hX 210 rfl rfl ?_
  refine v_iasg hX aC_275 (vp_in_nI (by omega) (by decide)) 211 rfl ?_
  rw [nI_clamp (n := n) (by omega), Nat.zero_add]
  refine v_aload hX 212 rfl rfl ?_
  refine v_iconst hX (v := 3) 213 rfl (by decide) ?_
  refine v_dup2 hX 214 rfl rfl rfl ?_
  refine v_ialg hX aC_278 (vp_in_nI (n := 3) (by decide) (by decide)) 215 rfl ?_
  rw [show (mset (mset (mset (mset (mset (mset N 270 n (1 - cp M 1 a 0)) 271 n (nI p)) 272 n (nI dy)) 273 n (nI dy)) 274 n (nI a)) 275 n (nI c)).1 278 (0 + Int32.toNatClampNeg 3) = nI n from (congrFun (hNr 278 (by decide)) 3).trans hT3]
  refine v_iconst hX (v := 1) 216 rfl (by decide) ?_
  refine v_iadd hX 217 rfl ?_
  refine v_iasg hX aC_278 (vp_in_nI (n := 3) (by decide) (by decide)) 218 rfl ?_
  refine V.mem (M2 := stN9 N n dy (1 - cp M 1 a 0) (nI p) (nI a) (nI c)) (by rw [nI_1]; rfl) ?_
  refine v_goto hX (tgt := 948) 219 rfl (by decide) ?_
  exact V.sub (hk _ _ _ _ hNL) rfl ⟨rfl, rfl, rfl, rfl, rfl, rfl, rfl, rfl, rfl, rfl, rfl, rfl, rfl, trivial⟩
set_option maxRecDepth 100000 in
set_option maxHeartbeats 8000000 in
theorem l_law_answer_no {Y : Yt} {X : XT} {M : Mm} (hX : vOK Y X iL_law 22 "PointAnswersLaw" room_1 (some .boolean)) {b e n la dy : Nat} (hk : ∀ N n2 la2 dy2, LI N n2 la2 dy2 → V Y X N 948 [some (.ref b), some (.ref (Y.2.2.2.1 0)), some (.ref (Y.2.2.2.1 270)), some (.ref (Y.2.2.2.1 271)), some (.ref (Y.2.2.2.1 272)), some (.ref (Y.2.2.2.1 273)), some (.ref (Y.2.2.2.1 274)), some (.ref (Y.2.2.2.1 275)), some (.ref (Y.2.2.2.1 276)), some (.ref (Y.2.2.2.1 277)), some (.ref (Y.2.2.2.1 278)), some (.int (nI e)), none, none, none, none, some (.int 1), none, none, none, none, none] []) (hL : LI M n la dy) {v : Int32} {kd a p c : Nat} (hn24 : n < 24) (ha : a < n) (hg : ¬ cp M 1 a 6 = 0) (hp : 1 ≤ p ∧ p ≤ 9) (hc : c < 1024) : V Y X M 248 [some (.ref b), some (.ref (Y.2.2.2.1 0)), some (.ref (Y.2.2.2.1 270)), some (.ref (Y.2.2.2.1 271)), some (.ref (Y.2.2.2.1 272)), some (.ref (Y.2.2.2.1 273)), some (.ref (Y.2.2.2.1 274)), some (.ref (Y.2.2.2.1 275)), some (.ref (Y.2.2.2.1 276)), some (.ref (Y.2.2.2.1 277)), some (.ref (Y.2.2.2.1 278)), some (.int (nI e)), some (.int v), some (.int (nI kd)), some (.int (nI n)), some (.int (nI a)), some (.int 1), some (.int 1), some (.int (nI p)), some (.int (nI c)), none, none] [] := by
  have hn : n ≤ 24 := hL.1.2.1
  have hw := hL.1.2.2.1
  have hS := hL.2.2.1
  have h2 : M.1 1 2 = nI dy := hL.1.2.2.2.2.2.2.2.2.1
  have hdy : dy ≤ 999 := hL.1.2.2.2.2.2.2.2.2.2.1
  have hT2 : M.1 278 2 = nI dy := hL.2.2.2.2.2.2.1.trans h2
  have hT3 : M.1 278 3 = nI n := hL.2.2.2.2.2.2.2.1
  have hT4 : M.1 278 4 = M.1 1 3 := hL.2.2.2.2.2.2.2.2
  refine v_iload hX 131 rfl rfl ?_
  refine v_if_eq hX (tgt := 261) 132 rfl (by decide) (fun c250 => absurd c250 (by decide)) (fun c250 => ?_)
  refine v_aload hX 133 rfl rfl ?_
  refine v_iload hX 134 rfl rfl ?_
  refine v_ialg hX aC_276 (vp_in_nI (by omega) (by decide)) 135 rfl ?_
  rw [show M.1 276 (0 + (nI a).toNatClampNeg) = cp M 1 a 6 from by rw [nI_clamp (n := a) (by omega), Nat.zero_add]; exact (hS a ha).2.2.2.2.2.2]
  refine v_if_ne hX (tgt := 265) 136 rfl (by decide) (fun c258 => ?_) (fun c258 => absurd c258 hg)
  refine v_iconst hX (v := 0) 139 rfl (by decide) ?_
  refine v_istore hX 140 rfl (Nat.le_of_ble_eq_true rfl) rfl ?_
  refine v_iload hX 141 rfl rfl ?_
  refine v_if_eq hX (tgt := 286) 142 rfl (by decide) (fun c270 => absurd c270 (by decide)) (fun c270 => ?_)
  refine v_aload_n hX 1 143 rfl rfl rfl ?_
  refine v_iload hX 144 rfl rfl ?_
  refine v_iload hX 145 rfl rfl ?_
  refine v_iload hX 146 rfl rfl ?_
  obtain ⟨N, hF, hNL⟩ := c_answer_no (Y := Y) (p := p) (c := c) hL hn24 ha hg hp hc
  refine v_callV hX 3 (by decide) rfl rfl (hF) tw_271 tw_268 tw_269 tw_270 tw_39 (by decide +kernel) ⟨⟨rfl, rfl⟩, Nat.le_of_ble_eq_true rfl, Nat.le_of_ble_eq_true rfl⟩ rfl (Nat.le_of_ble_eq_true rfl) rfl rfl 147 rfl ?_
  refine v_goto hX (tgt := 298) 148 rfl (by decide) ?_
  refine v_istore hX 156 rfl (Nat.le_of_ble_eq_true rfl) rfl ?_
  refine v_iload hX 157 rfl rfl ?_
  refine v_iload hX 158 rfl rfl ?_
  refine v_if_eq hX (tgt := 312) 159 rfl (by decide) (fun c304 => ?_) (fun c304 => absurd rfl c304)
  refine v_bipush hX (v := (-5)) 162 rfl (by decide) ?_
  refine v_icmp_ne hX (tgt := 321) 163 rfl (by decide) (fun c314 => absurd c314 (fun h => h rfl)) (fun c314 => ?_)
  refine v_iconst hX (v := 1) 164 rfl (by decide) ?_
  refine v_goto hX (tgt := 322) 165 rfl (by decide) ?_
  refine v_istore hX 167 rfl (Nat.le_of_ble_eq_true rfl) rfl ?_
  refine v_iload hX 168 rfl rfl ?_
  refine v_if_eq hX (tgt := 406) 169 rfl (by decide) (fun c326 => ?_) (fun c326 => absurd rfl c326)
  refine v_goto hX (tgt := 948) 219 rfl (by decide) ?_
  exact V.sub (hk _ _ _ _ hNL) rfl ⟨rfl, rfl, rfl, rfl, rfl, rfl, rfl, rfl, rfl, rfl, rfl, rfl, rfl, trivial⟩
set_option maxRecDepth 100000 in
set_option maxHeartbeats 8000000 in
theorem l_law_new {Y : Yt} {X : XT} {M : Mm} (hX : vOK Y X iL_law 22 "PointAnswersLaw" room_1 (some .boolean)) {b e n la dy : Nat} (hk : ∀ N n2 la2 dy2, LI N n2 la2 dy2 → V Y X N 948 [some (.ref b), some (.ref (Y.2.2.2.1 0)), some (.ref (Y.2.2.2.1 270)), some (.ref (Y.2.2.2.1 271)), some (.ref (Y.2.2.2.1 272)), some (.ref (Y.2.2.2.1 273)), some (.ref (Y.2.2.2.1 274)), some (.ref (Y.2.2.2.1 275)), some (.ref (Y.2.2.2.1 276)), some (.ref (Y.2.2.2.1 277)), some (.ref (Y.2.2.2.1 278)), some (.int (nI e)), none, none, none, none, some (.int 1), none, none, none, none, none] []) (hL : LI M n la dy) {v : Int32} {kd a : Nat} (hn24 : n < 24) (hkd : kd < 9) (ha0 : 0 < n → a < n) : V Y X M 141 [some (.ref b), some (.ref (Y.2.2.2.1 0)), some (.ref (Y.2.2.2.1 270)), some (.ref (Y.2.2.2.1 271)), some (.ref (Y.2.2.2.1 272)), some (.ref (Y.2.2.2.1 273)), some (.ref (Y.2.2.2.1 274)), some (.ref (Y.2.2.2.1 275)), some (.ref (Y.2.2.2.1 276)), some (.ref (Y.2.2.2.1 277)), some (.ref (Y.2.2.2.1 278)), some (.int (nI e)), some (.int v), some (.int (nI kd)), some (.int (nI n)), some (.int (nI a)), some (.int 1), none, none, none, none, none] [] := by
  have hn : n ≤ 24 := hL.1.2.1
  have hw := hL.1.2.2.1
  have hS := hL.2.2.1
  have h2 : M.1 1 2 = nI dy := hL.1.2.2.2.2.2.2.2.2.1
  have hdy : dy ≤ 999 := hL.1.2.2.2.2.2.2.2.2.2.1
  have hT2 : M.1 278 2 = nI dy := hL.2.2.2.2.2.2.1.trans h2
  have hT3 : M.1 278 3 = nI n := hL.2.2.2.2.2.2.2.1
  have hT4 : M.1 278 4 = M.1 1 3 := hL.2.2.2.2.2.2.2.2
  have j157 : ∀ (x1 : Int32) (an : Bool), x1 = bI an → (an = true → 0 < n ∧ 1 < kd) → V Y X M 157 [some (.ref b), some (.ref (Y.2.2.2.1 0)), some (.ref (Y.2.2.2.1 270)), some (.ref (Y.2.2.2.1 271)), some (.ref (Y.2.2.2.1 272)), some (.ref (Y.2.2.2.1 273)), some (.ref (Y.2.2.2.1 274)), some (.ref (Y.2.2.2.1 275)), some (.ref (Y.2.2.2.1 276)), some (.ref (Y.2.2.2.1 277)), some (.ref (Y.2.2.2.1 278)), some (.int (nI e)), some (.int v), some (.int (nI kd)), some (.int (nI n)), some (.int (nI a)), some (.int 1), none, none, none, none, none] [.int x1] := by
    intro x1 an hx1 han
    subst hx1
    refine v_istore hX 82 rfl (Nat.le_of_ble_eq_true rfl) rfl ?_
    refine v_iconst hX (v := 1) 83 rfl (by decide) ?_
    refine v_iload hX 84 rfl rfl ?_
    refine v_bipush hX (v := 9) 85 rfl (by decide) ?_
    refine v_ishr hX 86 rfl ?_
    obtain ⟨v9, hv9⟩ : ∃ z9, z9 = v >>> ((9 : Int32) &&& 31) := ⟨_, rfl⟩
    rw [← hv9]
    refine v_iload hX 87 rfl rfl ?_
    refine v_bipush hX (v := 20) 88 rfl (by decide) ?_
    refine v_ishr hX 89 rfl ?_
    obtain ⟨v20, hv20⟩ : ∃ z9, z9 = v >>> ((20 : Int32) &&& 31) := ⟨_, rfl⟩
    rw [← hv20]
    refine v_iconst hX (v := 2) 90 rfl (by decide) ?_
    refine v_callS hX 2 (l_low (n := 2) (by decide) (by decide)) tw_356 tw_354 tw_355 tw_38 (by decide +kernel) ⟨⟨rfl, rfl⟩, Nat.le_of_ble_eq_true rfl, Nat.le_of_ble_eq_true rfl⟩ rfl (Nat.le_of_ble_eq_true rfl) rfl rfl 91 rfl ?_
    have j183 : ∀ (x2 : Int32) (g2 : Nat), x2 = nI g2 → (0 < g2 ∧ g2 ≤ 9) → V Y X M 183 [some (.ref b), some (.ref (Y.2.2.2.1 0)), some (.ref (Y.2.2.2.1 270)), some (.ref (Y.2.2.2.1 271)), some (.ref (Y.2.2.2.1 272)), some (.ref (Y.2.2.2.1 273)), some (.ref (Y.2.2.2.1 274)), some (.ref (Y.2.2.2.1 275)), some (.ref (Y.2.2.2.1 276)), some (.ref (Y.2.2.2.1 277)), some (.ref (Y.2.2.2.1 278)), some (.int (nI e)), some (.int v), some (.int (nI kd)), some (.int (nI n)), some (.int (nI a)), some (.int 1), some (.int (bI an)), none, none, none, none] [.int x2, .int v9, .int 1] := by
      intro x2 g2 hx2 hg2
      subst hx2
      refine v_callS hX 2 (l_low (n := g2) (by omega) (by omega)) tw_356 tw_354 tw_355 tw_38 (by decide +kernel) ⟨⟨rfl, rfl⟩, Nat.le_of_ble_eq_true rfl, Nat.le_of_ble_eq_true rfl⟩ rfl (Nat.le_of_ble_eq_true rfl) rfl rfl 96 rfl ?_
      refine v_iadd hX 97 rfl ?_
      obtain ⟨p, hp, hpe⟩ : ∃ z9, (1 ≤ z9 ∧ z9 ≤ 9) ∧ (1 : Int32) + nI (lo0 v9 g2) = nI z9 := ⟨1 + lo0 v9 g2, by have := lo0_lt (v := v9) hg2.1; omega, nI_add 1 _⟩
      rw [hpe]
      refine v_istore hX 98 rfl (Nat.le_of_ble_eq_true rfl) rfl ?_
      have j246 : ∀ (x3 : Int32) (c : Nat), x3 = nI c → c < 1024 → V Y X M 246 [some (.ref b), some (.ref (Y.2.2.2.1 0)), some (.ref (Y.2.2.2.1 270)), some (.ref (Y.2.2.2.1 271)), some (.ref (Y.2.2.2.1 272)), some (.ref (Y.2.2.2.1 273)), some (.ref (Y.2.2.2.1 274)), some (.ref (Y.2.2.2.1 275)), some (.ref (Y.2.2.2.1 276)), some (.ref (Y.2.2.2.1 277)), some (.ref (Y.2.2.2.1 278)), some (.int (nI e)), some (.int v), some (.int (nI kd)), some (.int (nI n)), some (.int (nI a)), some (.int 1), some (.int (bI an)), some (.int (nI p)), none, none, none] [.int x3] := by
        intro x3 c hx3 hc
        subst hx3
        refine v_istore hX 130 rfl (Nat.le_of_ble_eq_true rfl) rfl ?_
        cases an
        · skip
          exact V.sub (l_law_claim hX hk hL hn24 hkd hp hc) rfl ⟨rfl, rfl, rfl, rfl, rfl, rfl, rfl, rfl, rfl, rfl, rfl, rfl, rfl, rfl, rfl, rfl, rfl, rfl, rfl, rfl, trivial⟩
        · skip
          by_cases hg : cp M 1 a 6 = 0
          · exact V.sub (l_law_answer hX hk hL hn24 (ha0 (han rfl).1) hg hp hc) rfl ⟨rfl, rfl, rfl, rfl, rfl, rfl, rfl, rfl, rfl, rfl, rfl, rfl, rfl, rfl, rfl, rfl, rfl, rfl, rfl, rfl, trivial⟩
          · exact V.sub (l_law_answer_no hX hk hL hn24 (ha0 (han rfl).1) hg hp hc) rfl ⟨rfl, rfl, rfl, rfl, rfl, rfl, rfl, rfl, rfl, rfl, rfl, rfl, rfl, rfl, rfl, rfl, rfl, rfl, rfl, rfl, trivial⟩
          skip
      refine v_iload hX 99 rfl rfl ?_
      refine v_bipush hX (v := 21) 100 rfl (by decide) ?_
      refine v_ishr hX 101 rfl ?_
      obtain ⟨v21, hv21⟩ : ∃ z9, z9 = v >>> ((21 : Int32) &&& 31) := ⟨_, rfl⟩
      rw [← hv21]
      refine v_iconst hX (v := 3) 102 rfl (by decide) ?_
      refine v_callS hX 2 (l_low (n := 3) (by decide) (by decide)) tw_356 tw_354 tw_355 tw_38 (by decide +kernel) ⟨⟨rfl, rfl⟩, Nat.le_of_ble_eq_true rfl, Nat.le_of_ble_eq_true rfl⟩ rfl (Nat.le_of_ble_eq_true rfl) rfl rfl 103 rfl ?_
      refine v_if_ne hX (tgt := 205) 104 rfl (by decide) (fun c198 => ?_) (fun c198 => ?_)
      · skip
        refine v_iconst hX (v := 1) 107 rfl (by decide) ?_
        refine v_iload hX 108 rfl rfl ?_
        refine v_bipush hX (v := 13) 109 rfl (by decide) ?_
        refine v_ishr hX 110 rfl ?_
        obtain ⟨v13, hv13⟩ : ∃ z9, z9 = v >>> ((13 : Int32) &&& 31) := ⟨_, rfl⟩
        rw [← hv13]
        refine v_bipush hX (v := 10) 111 rfl (by decide) ?_
        refine v_callS hX 2 (l_low (n := 10) (by decide) (by decide)) tw_356 tw_354 tw_355 tw_38 (by decide +kernel) ⟨⟨rfl, rfl⟩, Nat.le_of_ble_eq_true rfl, Nat.le_of_ble_eq_true rfl⟩ rfl (Nat.le_of_ble_eq_true rfl) rfl rfl 112 rfl ?_
        refine v_ishl hX 113 rfl ?_
        have j245 : ∀ (x4 : Int32), (x4 = 0 ∨ ∃ j, j < 10 ∧ x4 = (1 : Int32) <<< (nI j &&& 31)) → V Y X M 245 [some (.ref b), some (.ref (Y.2.2.2.1 0)), some (.ref (Y.2.2.2.1 270)), some (.ref (Y.2.2.2.1 271)), some (.ref (Y.2.2.2.1 272)), some (.ref (Y.2.2.2.1 273)), some (.ref (Y.2.2.2.1 274)), some (.ref (Y.2.2.2.1 275)), some (.ref (Y.2.2.2.1 276)), some (.ref (Y.2.2.2.1 277)), some (.ref (Y.2.2.2.1 278)), some (.int (nI e)), some (.int v), some (.int (nI kd)), some (.int (nI n)), some (.int (nI a)), some (.int 1), some (.int (bI an)), some (.int (nI p)), none, none, none] [.int x4, .int ((1 : Int32) <<< (nI (lo0 v13 10) &&& 31))] := by
          intro x4 hx4
          refine v_ior hX 129 rfl ?_
          obtain ⟨c, hc, hce⟩ := cites_c (i := lo0 v13 10) (lo0_lt (by decide)) hx4
          rw [hce]
          exact V.sub (j246 _ c rfl hc) rfl ⟨rfl, rfl, rfl, rfl, rfl, rfl, rfl, rfl, rfl, rfl, rfl, rfl, rfl, rfl, rfl, rfl, rfl, rfl, rfl, trivial⟩
        refine v_iload hX 114 rfl rfl ?_
        refine v_bipush hX (v := 23) 115 rfl (by decide) ?_
        refine v_ishr hX 116 rfl ?_
        obtain ⟨v23, hv23⟩ : ∃ z9, z9 = v >>> ((23 : Int32) &&& 31) := ⟨_, rfl⟩
        rw [← hv23]
        refine v_iconst hX (v := 2) 117 rfl (by decide) ?_
        refine v_callS hX 2 (l_low (n := 2) (by decide) (by decide)) tw_356 tw_354 tw_355 tw_38 (by decide +kernel) ⟨⟨rfl, rfl⟩, Nat.le_of_ble_eq_true rfl, Nat.le_of_ble_eq_true rfl⟩ rfl (Nat.le_of_ble_eq_true rfl) rfl rfl 118 rfl ?_
        refine v_if_ne hX (tgt := 233) 119 rfl (by decide) (fun c226 => ?_) (fun c226 => ?_)
        · skip
          refine v_iconst hX (v := 1) 122 rfl (by decide) ?_
          refine v_iload hX 123 rfl rfl ?_
          refine v_bipush hX (v := 16) 124 rfl (by decide) ?_
          refine v_ishr hX 125 rfl ?_
          obtain ⟨v16, hv16⟩ : ∃ z9, z9 = v >>> ((16 : Int32) &&& 31) := ⟨_, rfl⟩
          rw [← hv16]
          refine v_bipush hX (v := 10) 126 rfl (by decide) ?_
          refine v_callS hX 2 (l_low (n := 10) (by decide) (by decide)) tw_356 tw_354 tw_355 tw_38 (by decide +kernel) ⟨⟨rfl, rfl⟩, Nat.le_of_ble_eq_true rfl, Nat.le_of_ble_eq_true rfl⟩ rfl (Nat.le_of_ble_eq_true rfl) rfl rfl 127 rfl ?_
          refine v_ishl hX 128 rfl ?_
          exact V.sub (j245 _ (Or.inr ⟨_, lo0_lt (by decide), rfl⟩)) rfl ⟨rfl, rfl, rfl, rfl, rfl, rfl, rfl, rfl, rfl, rfl, rfl, rfl, rfl, rfl, rfl, rfl, rfl, rfl, rfl, trivial⟩
        · skip
          refine v_iconst hX (v := 0) 120 rfl (by decide) ?_
          refine v_goto hX (tgt := 245) 121 rfl (by decide) ?_
          exact V.sub (j245 _ (Or.inl rfl)) rfl ⟨rfl, rfl, rfl, rfl, rfl, rfl, rfl, rfl, rfl, rfl, rfl, rfl, rfl, rfl, rfl, rfl, rfl, rfl, rfl, trivial⟩
      · skip
        refine v_iconst hX (v := 0) 105 rfl (by decide) ?_
        refine v_goto hX (tgt := 246) 106 rfl (by decide) ?_
        exact V.sub (j246 _ 0 rfl (by decide)) rfl ⟨rfl, rfl, rfl, rfl, rfl, rfl, rfl, rfl, rfl, rfl, rfl, rfl, rfl, rfl, rfl, rfl, rfl, rfl, rfl, trivial⟩
    refine v_if_ne hX (tgt := 182) 92 rfl (by decide) (fun c174 => ?_) (fun c174 => ?_)
    · skip
      refine v_iconst hX (v := 3) 95 rfl (by decide) ?_
      exact V.sub (j183 _ 3 rfl (by decide)) rfl ⟨rfl, rfl, rfl, rfl, rfl, rfl, rfl, rfl, rfl, rfl, rfl, rfl, rfl, rfl, rfl, rfl, rfl, rfl, trivial⟩
    · skip
      refine v_bipush hX (v := 9) 93 rfl (by decide) ?_
      refine v_goto hX (tgt := 183) 94 rfl (by decide) ?_
      exact V.sub (j183 _ 9 rfl (by decide)) rfl ⟨rfl, rfl, rfl, rfl, rfl, rfl, rfl, rfl, rfl, rfl, rfl, rfl, rfl, rfl, rfl, rfl, rfl, rfl, trivial⟩
  refine v_iload hX 74 rfl rfl ?_
  refine v_if_le hX (tgt := 156) 75 rfl (by decide) (fun c143 => ?_) (fun c143 => ?_)
  · skip
    refine v_iconst hX (v := 0) 81 rfl (by decide) ?_
    exact V.sub (j157 _ false rfl (fun g => absurd g (by decide))) rfl ⟨rfl, rfl, rfl, rfl, rfl, rfl, rfl, rfl, rfl, rfl, rfl, rfl, rfl, rfl, rfl, rfl, rfl, trivial⟩
  · skip
    refine v_iload hX 76 rfl rfl ?_
    refine v_iconst hX (v := 1) 77 rfl (by decide) ?_
    refine v_icmp_le hX (tgt := 156) 78 rfl (by decide) (fun c149 => ?_) (fun c149 => ?_)
    · skip
      refine v_iconst hX (v := 0) 81 rfl (by decide) ?_
      exact V.sub (j157 _ false rfl (fun g => absurd g (by decide))) rfl ⟨rfl, rfl, rfl, rfl, rfl, rfl, rfl, rfl, rfl, rfl, rfl, rfl, rfl, rfl, rfl, rfl, rfl, trivial⟩
    · skip
      refine v_iconst hX (v := 1) 79 rfl (by decide) ?_
      refine v_goto hX (tgt := 157) 80 rfl (by decide) ?_
      exact V.sub (j157 _ true rfl (fun _ => ⟨Nat.pos_of_ne_zero (fun g => c143 (by rw [g]; decide)), of_nle (k := 1) c149 (by omega) (by omega)⟩)) rfl ⟨rfl, rfl, rfl, rfl, rfl, rfl, rfl, rfl, rfl, rfl, rfl, rfl, rfl, rfl, rfl, rfl, rfl, trivial⟩
