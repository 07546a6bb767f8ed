set_option maxRecDepth 100000 in
set_option maxHeartbeats 4000000 in
theorem l_reasons {Y : Yt} {M : Mm} {P : Nat → Nat → Int32} {n la dy kr ko wa : Nat} {pg ov more : Int32} (hn : n ≤ 24) (hw : WF P n) (h9 : sm9 P n) (hS : LSt M P n) (hla : la ≤ 60) (hdy : dy ≤ 3000) (hT0 : M.1 278 0 = nI la) (hT1 : M.1 278 1 = pg) (hT2 : M.1 278 2 = nI dy) (hT3 : M.1 278 3 = nI n) (hT4 : M.1 278 4 = ov) (hC : aC Y kr ko wa 24) (hkw : kr = 277 ∨ kr = 2) : Fn Y yL_reasons wsL_reasons { frames := 0, cells := 0, slots := 0, locals := 0 } [.ref (Y.2.2.2.1 270), .ref (Y.2.2.2.1 271), .ref (Y.2.2.2.1 273), .ref (Y.2.2.2.1 274), .ref (Y.2.2.2.1 275), .ref (Y.2.2.2.1 276), .ref wa, .ref (Y.2.2.2.1 278), .int more] M none ((mput M kr ko 24 (rzA (fun z9 => M.1 kr (ko + z9)) P (nI dy) (nI la) pg ov more n))) := by
  have hB0 : ∀ f, (mput M kr ko 24 f).1 278 (0 + Int32.toNatClampNeg 0) = nI la := fun f => by rw [mput_o (by omega)]; exact hT0
  have hB1 : ∀ f, (mput M kr ko 24 f).1 278 (0 + Int32.toNatClampNeg 1) = pg := fun f => by rw [mput_o (by omega)]; exact hT1
  have hB2 : ∀ f, (mput M kr ko 24 f).1 278 (0 + Int32.toNatClampNeg 2) = nI dy := fun f => by rw [mput_o (by omega)]; exact hT2
  have hB3 : ∀ f, (mput M kr ko 24 f).1 278 (0 + Int32.toNatClampNeg 3) = nI n := fun f => by rw [mput_o (by omega)]; exact hT3
  have hB4 : ∀ f, (mput M kr ko 24 f).1 278 (0 + Int32.toNatClampNeg 4) = ov := fun f => by rw [mput_o (by omega)]; exact hT4
  have hA0 : ∀ f k, k < n → (mput M kr ko 24 f).1 270 (0 + (nI k).toNatClampNeg) = P k 0 := fun f k hk => by rw [mput_o (by omega), nI_clamp (by omega), Nat.zero_add]; exact (hS k hk).1
  have hA1 : ∀ f k, k < n → (mput M kr ko 24 f).1 271 (0 + (nI k).toNatClampNeg) = P k 1 := fun f k hk => by rw [mput_o (by omega), nI_clamp (by omega), Nat.zero_add]; exact (hS k hk).2.1
  have hA3 : ∀ f k, k < n → (mput M kr ko 24 f).1 273 (0 + (nI k).toNatClampNeg) = P k 5 := fun f k hk => by rw [mput_o (by omega), nI_clamp (by omega), Nat.zero_add]; exact (hS k hk).2.2.2.1
  have hA4 : ∀ f k, k < n → (mput M kr ko 24 f).1 274 (0 + (nI k).toNatClampNeg) = toV P k := fun f k hk => by rw [mput_o (by omega), nI_clamp (by omega), Nat.zero_add]; exact (hS k hk).2.2.2.2.1
  have hA5 : ∀ f k, k < n → (mput M kr ko 24 f).1 275 (0 + (nI k).toNatClampNeg) = P k 2 := fun f k hk => by rw [mput_o (by omega), nI_clamp (by omega), Nat.zero_add]; exact (hS k hk).2.2.2.2.2.1
  have hA6 : ∀ f k, k < n → (mput M kr ko 24 f).1 276 (0 + (nI k).toNatClampNeg) = P k 6 := fun f k hk => by rw [mput_o (by omega), nI_clamp (by omega), Nat.zero_add]; exact (hS k hk).2.2.2.2.2.2
  have hAw : ∀ f k, k < 24 → (mput M kr ko 24 f).1 kr (ko + (nI k).toNatClampNeg) = f k := fun f k hk => by rw [nI_clamp (by omega), mput_at hk]
  refine Fn.of (cc := cL_reasons) (ins := iL_reasons) (maxL := 13) (ret := none) (by decide) dL_reasons [some (.ref (Y.2.2.2.1 270)), some (.ref (Y.2.2.2.1 271)), some (.ref (Y.2.2.2.1 273)), some (.ref (Y.2.2.2.1 274)), some (.ref (Y.2.2.2.1 275)), some (.ref (Y.2.2.2.1 276)), some (.ref wa), some (.ref (Y.2.2.2.1 278)), some (.int more), none, none, none, none] (Nat.le_of_ble_eq_true rfl) rfl rfl ?_
  intro X hX hQ
  refine v_iconst hX (v := 0) 0 rfl (by decide) ?_
  refine v_istore hX 1 rfl (Nat.le_of_ble_eq_true rfl) rfl ?_
  have lp : ∀ (p : Nat), p ≤ n → V Y X (mput M kr ko 24 (r1A (fun z9 => M.1 kr (ko + z9)) P (nI dy) (nI la) pg ov p)) 3 [some (.ref (Y.2.2.2.1 270)), some (.ref (Y.2.2.2.1 271)), some (.ref (Y.2.2.2.1 273)), some (.ref (Y.2.2.2.1 274)), some (.ref (Y.2.2.2.1 275)), some (.ref (Y.2.2.2.1 276)), some (.ref wa), some (.ref (Y.2.2.2.1 278)), some (.int more), some (.int (nI p)), none, none, none] [] := by
    refine upTo n (fun p hp0 ih => ?_)
    refine v_iload hX 2 rfl rfl ?_
    refine v_aload hX 3 rfl rfl ?_
    refine v_iconst hX (v := 3) 4 rfl (by decide) ?_
    refine v_ialg hX aC_278 (vp_in_nI (n := 3) (by decide) (by decide)) 5 rfl ?_
    rw [hB3]
    refine v_icmp_ge hX (tgt := 194) 6 rfl (by decide) (fun c9 => ?_) (fun c9 => ?_)
    · skip
      have hpn : n = p := by have := of_le c9 (by omega) (by omega); omega
      subst hpn
      refine v_aload hX 109 rfl rfl ?_
      refine v_iconst hX (v := 3) 110 rfl (by decide) ?_
      refine v_ialg hX aC_278 (vp_in_nI (n := 3) (by decide) (by decide)) 111 rfl ?_
      rw [hB3]
      refine v_iconst hX (v := 1) 112 rfl (by decide) ?_
      refine v_isub hX 113 rfl ?_
      refine v_istore hX 114 rfl (Nat.le_of_ble_eq_true rfl) rfl ?_
      have lr : ∀ (m : Nat), m ≤ n → V Y X (mput M kr ko 24 (r2A (fun z9 => M.1 kr (ko + z9)) P (nI dy) (nI la) pg ov more n m)) 202 [some (.ref (Y.2.2.2.1 270)), some (.ref (Y.2.2.2.1 271)), some (.ref (Y.2.2.2.1 273)), some (.ref (Y.2.2.2.1 274)), some (.ref (Y.2.2.2.1 275)), some (.ref (Y.2.2.2.1 276)), some (.ref wa), some (.ref (Y.2.2.2.1 278)), some (.int more), some (.int (nI m - 1)), none, none, none] [] := by
        refine downTo (fun m ihr => ?_)
        intro hm
        rcases Nat.eq_zero_or_pos m with h0 | h0
        · skip
          subst h0
          refine v_iload hX 115 rfl rfl ?_
          refine v_if_lt hX (tgt := 293) 116 rfl (by decide) (fun c204 => ?_) (fun c204 => absurd (by decide) c204)
          refine v_vret hX hQ rfl rfl ?_ 163 rfl
          rw [r2A_0]
        · skip
          obtain ⟨m, rfl⟩ : ∃ m2, m = m2 + 1 := ⟨m - 1, by omega⟩
          rw [nI_pred]
          refine v_iload hX 115 rfl rfl ?_
          refine v_if_lt hX (tgt := 293) 116 rfl (by decide) (fun c204 => absurd c204 (nI_nlt (Nat.zero_le _) (by omega))) (fun c204 => ?_)
          refine v_aload hX 117 rfl rfl ?_
          refine v_iload hX 118 rfl rfl ?_
          refine v_ialg hX hC (vp_in_nI (by omega) (by decide)) 119 rfl ?_
          rw [hAw _ _ (by omega), show r2A (fun z9 => M.1 kr (ko + z9)) P (nI dy) (nI la) pg ov more n (m + 1) m = rz1 P (nI dy) (nI la) pg ov m from by unfold r2A; rw [if_pos (by omega), if_neg (by omega)]]
          refine v_if_ne hX (tgt := 287) 120 rfl (by decide) (fun c212 => ?_) (fun c212 => ?_)
          · skip
            have q212 : ¬ rz1 P (nI dy) (nI la) pg ov m = 0 := c212
            refine v_iinc hX 161 rfl rfl (nI_dm m) (Nat.le_of_ble_eq_true rfl) rfl ?_
            refine v_goto hX (tgt := 202) 162 rfl (by decide) ?_
            refine V.subM (ihr m (by omega) (by omega)) ?_ rfl ⟨rfl, rfl, rfl, rfl, rfl, rfl, rfl, rfl, rfl, (by first | rfl | (refine congrArg (fun z : Int32 => some (Value.int z)) ?_; rfl)), trivial⟩
            first | rfl | exact congrArg (mput M kr ko 24) (r2A_k (by omega) q212)
          · skip
            have q212 : rz1 P (nI dy) (nI la) pg ov m = 0 := by first | exact c212 | exact Decidable.of_not_not c212
            refine v_iload hX 121 rfl rfl ?_
            refine v_iload hX 122 rfl rfl ?_
            refine v_ishr hX 123 rfl ?_
            refine v_iconst hX (v := 1) 124 rfl (by decide) ?_
            refine v_iand hX 125 rfl ?_
            rw [shr1n (show m < 31 by omega)]
            refine v_istore hX 126 rfl (Nat.le_of_ble_eq_true rfl) rfl ?_
            refine v_iload hX 127 rfl rfl ?_
            refine v_iconst hX (v := 1) 128 rfl (by decide) ?_
            refine v_iadd hX 129 rfl ?_
            rw [nI_1]
            refine v_istore hX 130 rfl (Nat.le_of_ble_eq_true rfl) rfl ?_
            have ls : ∀ (a : Nat), a ≤ n → m + 1 ≤ a → V Y X (mput M kr ko 24 (r2A (fun z9 => M.1 kr (ko + z9)) P (nI dy) (nI la) pg ov more n (m + 1))) 230 [some (.ref (Y.2.2.2.1 270)), some (.ref (Y.2.2.2.1 271)), some (.ref (Y.2.2.2.1 273)), some (.ref (Y.2.2.2.1 274)), some (.ref (Y.2.2.2.1 275)), some (.ref (Y.2.2.2.1 276)), some (.ref wa), some (.ref (Y.2.2.2.1 278)), some (.int more), some (.int (nI m)), some (.int (nI (stN P (nI dy) (nI la) pg ov more n m a))), some (.int (nI a)), none] [] := by
              refine upTo n (fun a ha ihs => ?_)
              intro hma
              have hsle := stN_le (P := P) (d := nI dy) (la := nI la) (pg := pg) (ov := ov) (more := more) (n := n) (p := m) (a := a)
              refine v_iload hX 131 rfl rfl ?_
              refine v_aload hX 132 rfl rfl ?_
              refine v_iconst hX (v := 3) 133 rfl (by decide) ?_
              refine v_ialg hX aC_278 (vp_in_nI (n := 3) (by decide) (by decide)) 134 rfl ?_
              rw [hB3]
              refine v_icmp_ge hX (tgt := 272) 135 rfl (by decide) (fun c236 => ?_) (fun c236 => ?_)
              · skip
                have han : n = a := by have := of_le c236 (by omega) (by omega); omega
                subst han
                have j286 : ∀ (v5 : Int32), v5 = rzW P (nI dy) (nI la) pg ov more n m → V Y X (mput M kr ko 24 (r2A (fun z9 => M.1 kr (ko + z9)) P (nI dy) (nI la) pg ov more n (m + 1))) 286 [some (.ref (Y.2.2.2.1 270)), some (.ref (Y.2.2.2.1 271)), some (.ref (Y.2.2.2.1 273)), some (.ref (Y.2.2.2.1 274)), some (.ref (Y.2.2.2.1 275)), some (.ref (Y.2.2.2.1 276)), some (.ref wa), some (.ref (Y.2.2.2.1 278)), some (.int more), some (.int (nI m)), none, none, none] [.int v5, .int (nI m), .ref wa] := by
                  intro v5 hv5
                  refine v_iasg hX hC (vp_in_nI (by omega) (by decide)) 160 rfl ?_
                  refine V.mem (M2 := mput M kr ko 24 (r2A (fun z9 => M.1 kr (ko + z9)) P (nI dy) (nI la) pg ov more n m)) (by rw [nI_clamp (by omega), mput_set (by omega), hv5, r2A_s (by omega)]) ?_
                  refine v_iinc hX 161 rfl rfl (nI_dm m) (Nat.le_of_ble_eq_true rfl) rfl ?_
                  refine v_goto hX (tgt := 202) 162 rfl (by decide) ?_
                  refine V.subM (ihr m (by omega) (by omega)) ?_ rfl ⟨rfl, rfl, rfl, rfl, rfl, rfl, rfl, rfl, rfl, (by first | rfl | (refine congrArg (fun z : Int32 => some (Value.int z)) ?_; rfl)), trivial⟩
                  first | rfl | exact congrArg (mput M kr ko 24) (r2A_k (by omega) q212)
                have hse := stN_e (P := P) (d := nI dy) (la := nI la) (pg := pg) (ov := ov) (more := more) (n := n) (p := m) (by omega) q212
                refine v_aload hX 153 rfl rfl ?_
                refine v_iload hX 154 rfl rfl ?_
                refine v_iload hX 155 rfl rfl ?_
                refine v_if_le hX (tgt := 285) 156 rfl (by decide) (fun c278 => ?_) (fun c278 => ?_)
                · skip
                  refine v_iconst hX (v := 0) 159 rfl (by decide) ?_
                  exact V.sub (j286 _ (by unfold rzW; rw [if_pos q212, if_pos (hse.mp (Nat.eq_zero_of_not_pos (fun g => nI_nle g (by omega) c278)))])) rfl ⟨rfl, rfl, rfl, rfl, rfl, rfl, rfl, rfl, rfl, rfl, trivial⟩
                · skip
                  refine v_iconst hX (v := 5) 157 rfl (by decide) ?_
                  refine v_goto hX (tgt := 286) 158 rfl (by decide) ?_
                  exact V.sub (j286 _ (by unfold rzW; rw [if_pos q212, if_neg (fun g => c278 (by rw [hse.mpr g]; decide))])) rfl ⟨rfl, rfl, rfl, rfl, rfl, rfl, rfl, rfl, rfl, rfl, trivial⟩
              · skip
                have ha2 : a < n := of_nle c236 (by omega) (by omega)
                have j263 : ∀ (v4 : Int32), v4 = nI (if P a 3 = nI m ∧ rzW P (nI dy) (nI la) pg ov more n a = 0 then 1 else 0) → V Y X (mput M kr ko 24 (r2A (fun z9 => M.1 kr (ko + z9)) P (nI dy) (nI la) pg ov more n (m + 1))) 263 [some (.ref (Y.2.2.2.1 270)), some (.ref (Y.2.2.2.1 271)), some (.ref (Y.2.2.2.1 273)), some (.ref (Y.2.2.2.1 274)), some (.ref (Y.2.2.2.1 275)), some (.ref (Y.2.2.2.1 276)), some (.ref wa), some (.ref (Y.2.2.2.1 278)), some (.int more), some (.int (nI m)), some (.int (nI (stN P (nI dy) (nI la) pg ov more n m a))), some (.int (nI a)), none] [.int v4, .int (nI (stN P (nI dy) (nI la) pg ov more n m a))] := by
                  intro v4 hv4
                  have hs4 := stN_s (P := P) (d := nI dy) (la := nI la) (pg := pg) (ov := ov) (more := more) (n := n) (p := m) (a := a) (by omega) ha2
                  refine v_iadd hX 149 rfl ?_
                  rw [hv4, nI_add]
                  refine v_istore hX 150 rfl (Nat.le_of_ble_eq_true rfl) rfl ?_
                  refine v_iinc hX 151 rfl rfl (nI_inc a) (Nat.le_of_ble_eq_true rfl) rfl ?_
                  refine v_goto hX (tgt := 230) 152 rfl (by decide) ?_
                  refine V.subM (ihs ha2 (by omega)) ?_ rfl ⟨rfl, rfl, rfl, rfl, rfl, rfl, rfl, rfl, rfl, rfl, (by first | rfl | (refine congrArg (fun z : Int32 => some (Value.int z)) ?_; rw [hs4])), rfl, trivial⟩
                  rfl
                refine v_iload hX 136 rfl rfl ?_
                refine v_aload_n hX 3 137 rfl rfl rfl ?_
                refine v_iload hX 138 rfl rfl ?_
                refine v_ialg hX aC_274 (vp_in_nI (by omega) (by decide)) 139 rfl ?_
                rw [hA4 _ _ (by omega)]
                refine v_iload hX 140 rfl rfl ?_
                refine v_icmp_ne hX (tgt := 262) 141 rfl (by decide) (fun c247 => ?_) (fun c247 => ?_)
                · skip
                  have q247 : ¬ P a 3 = nI m := fun g => c247 ((toV_eq hw hn ha2 (by omega)).mpr g)
                  refine v_iconst hX (v := 0) 148 rfl (by decide) ?_
                  exact V.sub (j263 _ (by rw [if_neg (fun h => q247 h.1)]; rfl)) rfl ⟨rfl, rfl, rfl, rfl, rfl, rfl, rfl, rfl, rfl, rfl, rfl, rfl, trivial⟩
                · skip
                  have q247 : P a 3 = nI m := (toV_eq hw hn ha2 (by omega)).mp c247
                  refine v_aload hX 142 rfl rfl ?_
                  refine v_iload hX 143 rfl rfl ?_
                  refine v_ialg hX hC (vp_in_nI (by omega) (by decide)) 144 rfl ?_
                  rw [hAw _ _ (by omega), show r2A (fun z9 => M.1 kr (ko + z9)) P (nI dy) (nI la) pg ov more n (m + 1) a = rzW P (nI dy) (nI la) pg ov more n a from by unfold r2A; rw [if_pos (by omega), if_pos (by omega)]]
                  refine v_if_ne hX (tgt := 262) 145 rfl (by decide) (fun c255 => ?_) (fun c255 => ?_)
                  · skip
                    refine v_iconst hX (v := 0) 148 rfl (by decide) ?_
                    exact V.sub (j263 _ (by rw [if_neg (fun h => c255 h.2)]; rfl)) rfl ⟨rfl, rfl, rfl, rfl, rfl, rfl, rfl, rfl, rfl, rfl, rfl, rfl, trivial⟩
                  · skip
                    refine v_iconst hX (v := 1) 146 rfl (by decide) ?_
                    refine v_goto hX (tgt := 263) 147 rfl (by decide) ?_
                    exact V.sub (j263 _ (by rw [if_pos ⟨q247, c255⟩]; rfl)) rfl ⟨rfl, rfl, rfl, rfl, rfl, rfl, rfl, rfl, rfl, rfl, rfl, rfl, trivial⟩
            refine V.subM (ls (m + 1) (by omega) (Nat.le_refl _)) ?_ rfl ⟨rfl, rfl, rfl, rfl, rfl, rfl, rfl, rfl, rfl, rfl, (by first | rfl | (refine congrArg (fun z : Int32 => some (Value.int z)) ?_; rw [stN_0])), rfl, trivial⟩
            rfl
      refine V.subM (lr n (Nat.le_refl n)) ?_ rfl ⟨rfl, rfl, rfl, rfl, rfl, rfl, rfl, rfl, rfl, (by first | rfl | (refine congrArg (fun z : Int32 => some (Value.int z)) ?_; rfl)), trivial⟩
      rw [r2A_n]
    · skip
      have hp : p < n := of_nle c9 (by omega) (by omega)
      refine v_aload_n hX 1 7 rfl rfl rfl ?_
      refine v_iload hX 8 rfl rfl ?_
      refine v_ialg hX aC_271 (vp_in_nI (by omega) (by decide)) 9 rfl ?_
      rw [hA1 _ _ (by omega)]
      refine v_istore hX 10 rfl (Nat.le_of_ble_eq_true rfl) rfl ?_
      refine v_iconst hX (v := 0) 11 rfl (by decide) ?_
      refine v_istore hX 12 rfl (Nat.le_of_ble_eq_true rfl) rfl ?_
      have lq : ∀ (q : Nat), q ≤ p → V Y X (mput M kr ko 24 (r1A (fun z9 => M.1 kr (ko + z9)) P (nI dy) (nI la) pg ov p)) 21 [some (.ref (Y.2.2.2.1 270)), some (.ref (Y.2.2.2.1 271)), some (.ref (Y.2.2.2.1 273)), some (.ref (Y.2.2.2.1 274)), some (.ref (Y.2.2.2.1 275)), some (.ref (Y.2.2.2.1 276)), some (.ref wa), some (.ref (Y.2.2.2.1 278)), some (.int more), some (.int (nI p)), some (.int (P p 1 + tk P pg (P p 0) q)), some (.int (nI q)), none] [] := by
        refine upTo p (fun q hq0 ihq => ?_)
        refine v_iload hX 13 rfl rfl ?_
        refine v_iload hX 14 rfl rfl ?_
        refine v_icmp_ge hX (tgt := 76) 15 rfl (by decide) (fun c25 => ?_) (fun c25 => ?_)
        · skip
          have hqp : p = q := by have := of_le c25 (by omega) (by omega); omega
          subst hqp
          have j104 : ∀ (v1 : Int32), v1 = (if P p 3 = -6 ∨ nI dy ≤ P p 5 + nI la then (0 : Int32) else 1) → V Y X (mput M kr ko 24 (r1A (fun z9 => M.1 kr (ko + z9)) P (nI dy) (nI la) pg ov p)) 104 [some (.ref (Y.2.2.2.1 270)), some (.ref (Y.2.2.2.1 271)), some (.ref (Y.2.2.2.1 273)), some (.ref (Y.2.2.2.1 274)), some (.ref (Y.2.2.2.1 275)), some (.ref (Y.2.2.2.1 276)), some (.ref wa), some (.ref (Y.2.2.2.1 278)), some (.int more), some (.int (nI p)), some (.int (P p 1 + tk P pg (P p 0) p)), none, none] [.int v1] := by
            intro v1 hv1
            refine v_istore hX 61 rfl (Nat.le_of_ble_eq_true rfl) rfl ?_
            have j136 : ∀ (v2 : Int32), v2 = (if P p 2 ≤ 0 ∨ ¬ P p 2 ||| ov = ov then (0 : Int32) else 1) → V Y X (mput M kr ko 24 (r1A (fun z9 => M.1 kr (ko + z9)) P (nI dy) (nI la) pg ov p)) 136 [some (.ref (Y.2.2.2.1 270)), some (.ref (Y.2.2.2.1 271)), some (.ref (Y.2.2.2.1 273)), some (.ref (Y.2.2.2.1 274)), some (.ref (Y.2.2.2.1 275)), some (.ref (Y.2.2.2.1 276)), some (.ref wa), some (.ref (Y.2.2.2.1 278)), some (.int more), some (.int (nI p)), some (.int (P p 1 + tk P pg (P p 0) p)), some (.int v1), none] [.int v2] := by
              intro v2 hv2
              refine v_istore hX 80 rfl (Nat.le_of_ble_eq_true rfl) rfl ?_
              have j187 : ∀ (v3 : Int32), v3 = rz1 P (nI dy) (nI la) pg ov p → V Y X (mput M kr ko 24 (r1A (fun z9 => M.1 kr (ko + z9)) P (nI dy) (nI la) pg ov p)) 187 [some (.ref (Y.2.2.2.1 270)), some (.ref (Y.2.2.2.1 271)), some (.ref (Y.2.2.2.1 273)), some (.ref (Y.2.2.2.1 274)), some (.ref (Y.2.2.2.1 275)), some (.ref (Y.2.2.2.1 276)), some (.ref wa), some (.ref (Y.2.2.2.1 278)), some (.int more), some (.int (nI p)), none, none, none] [.int v3, .int (nI p), .ref wa] := by
                intro v3 hv3
                refine v_iasg hX hC (vp_in_nI (by omega) (by decide)) 106 rfl ?_
                refine V.mem (M2 := mput M kr ko 24 (r1A (fun z9 => M.1 kr (ko + z9)) P (nI dy) (nI la) pg ov (p + 1))) (by rw [nI_clamp (by omega), mput_set (by omega), hv3, r1A_s]) ?_
                refine v_iinc hX 107 rfl rfl (nI_inc p) (Nat.le_of_ble_eq_true rfl) rfl ?_
                refine v_goto hX (tgt := 3) 108 rfl (by decide) ?_
                refine V.subM (ih hp) ?_ rfl ⟨rfl, rfl, rfl, rfl, rfl, rfl, rfl, rfl, rfl, rfl, trivial⟩
                rfl
              have hr1 : rz1 P (nI dy) (nI la) pg ov p = if P p 6 = 1 then 1 else if ¬ P p 1 + tk P pg (P p 0) p ≤ pg then 2 else if ¬ v1 = 0 then 3 else if ¬ v2 = 0 then 4 else 0 := by rw [hv1, hv2]; exact rz1_v hw hp h9 hdy hla
              refine v_aload hX 81 rfl rfl ?_
              refine v_iload hX 82 rfl rfl ?_
              refine v_aload hX 83 rfl rfl ?_
              refine v_iload hX 84 rfl rfl ?_
              refine v_ialg hX aC_276 (vp_in_nI (by omega) (by decide)) 85 rfl ?_
              rw [hA6 _ _ (by omega)]
              refine v_iconst hX (v := 1) 86 rfl (by decide) ?_
              refine v_icmp_ne hX (tgt := 155) 87 rfl (by decide) (fun c148 => ?_) (fun c148 => ?_)
              · skip
                refine v_iload hX 90 rfl rfl ?_
                refine v_aload hX 91 rfl rfl ?_
                refine v_iconst hX (v := 1) 92 rfl (by decide) ?_
                refine v_ialg hX aC_278 (vp_in_nI (n := 1) (by decide) (by decide)) 93 rfl ?_
                rw [hB1]
                refine v_icmp_le hX (tgt := 168) 94 rfl (by decide) (fun c161 => ?_) (fun c161 => ?_)
                · skip
                  refine v_iload hX 97 rfl rfl ?_
                  refine v_if_eq hX (tgt := 177) 98 rfl (by decide) (fun c170 => ?_) (fun c170 => ?_)
                  · skip
                    refine v_iload hX 101 rfl rfl ?_
                    refine v_if_eq hX (tgt := 186) 102 rfl (by decide) (fun c179 => ?_) (fun c179 => ?_)
                    · skip
                      refine v_iconst hX (v := 0) 105 rfl (by decide) ?_
                      exact V.sub (j187 _ (by rw [hr1, if_neg c148, if_neg (fun g => g c161), if_neg (fun g => g c170), if_neg (fun g => g c179)])) rfl ⟨rfl, rfl, rfl, rfl, rfl, rfl, rfl, rfl, rfl, rfl, trivial⟩
                    · skip
                      refine v_iconst hX (v := 4) 103 rfl (by decide) ?_
                      refine v_goto hX (tgt := 187) 104 rfl (by decide) ?_
                      exact V.sub (j187 _ (by rw [hr1, if_neg c148, if_neg (fun g => g c161), if_neg (fun g => g c170), if_pos c179])) rfl ⟨rfl, rfl, rfl, rfl, rfl, rfl, rfl, rfl, rfl, rfl, trivial⟩
                  · skip
                    refine v_iconst hX (v := 3) 99 rfl (by decide) ?_
                    refine v_goto hX (tgt := 187) 100 rfl (by decide) ?_
                    exact V.sub (j187 _ (by rw [hr1, if_neg c148, if_neg (fun g => g c161), if_pos c170])) rfl ⟨rfl, rfl, rfl, rfl, rfl, rfl, rfl, rfl, rfl, rfl, trivial⟩
                · skip
                  refine v_iconst hX (v := 2) 95 rfl (by decide) ?_
                  refine v_goto hX (tgt := 187) 96 rfl (by decide) ?_
                  exact V.sub (j187 _ (by rw [hr1, if_neg c148, if_pos c161])) rfl ⟨rfl, rfl, rfl, rfl, rfl, rfl, rfl, rfl, rfl, rfl, trivial⟩
              · skip
                refine v_iconst hX (v := 1) 88 rfl (by decide) ?_
                refine v_goto hX (tgt := 187) 89 rfl (by decide) ?_
                exact V.sub (j187 _ (by rw [hr1, if_pos c148])) rfl ⟨rfl, rfl, rfl, rfl, rfl, rfl, rfl, rfl, rfl, rfl, trivial⟩
            refine v_aload hX 62 rfl rfl ?_
            refine v_iload hX 63 rfl rfl ?_
            refine v_ialg hX aC_275 (vp_in_nI (by omega) (by decide)) 64 rfl ?_
            rw [hA5 _ _ (by omega)]
            refine v_if_le hX (tgt := 135) 65 rfl (by decide) (fun c111 => ?_) (fun c111 => ?_)
            · skip
              refine v_iconst hX (v := 0) 79 rfl (by decide) ?_
              exact V.sub (j136 _ (if_pos (Or.inl c111)).symm) rfl ⟨rfl, rfl, rfl, rfl, rfl, rfl, rfl, rfl, rfl, rfl, rfl, rfl, trivial⟩
            · skip
              refine v_aload hX 66 rfl rfl ?_
              refine v_iload hX 67 rfl rfl ?_
              refine v_ialg hX aC_275 (vp_in_nI (by omega) (by decide)) 68 rfl ?_
              rw [hA5 _ _ (by omega)]
              refine v_aload hX 69 rfl rfl ?_
              refine v_iconst hX (v := 4) 70 rfl (by decide) ?_
              refine v_ialg hX aC_278 (vp_in_nI (n := 4) (by decide) (by decide)) 71 rfl ?_
              rw [hB4]
              refine v_ior hX 72 rfl ?_
              refine v_aload hX 73 rfl rfl ?_
              refine v_iconst hX (v := 4) 74 rfl (by decide) ?_
              refine v_ialg hX aC_278 (vp_in_nI (n := 4) (by decide) (by decide)) 75 rfl ?_
              rw [hB4]
              refine v_icmp_ne hX (tgt := 135) 76 rfl (by decide) (fun c128 => ?_) (fun c128 => ?_)
              · skip
                refine v_iconst hX (v := 0) 79 rfl (by decide) ?_
                exact V.sub (j136 _ (if_pos (Or.inr c128)).symm) rfl ⟨rfl, rfl, rfl, rfl, rfl, rfl, rfl, rfl, rfl, rfl, rfl, rfl, trivial⟩
              · skip
                refine v_iconst hX (v := 1) 77 rfl (by decide) ?_
                refine v_goto hX (tgt := 136) 78 rfl (by decide) ?_
                exact V.sub (j136 _ (if_neg (fun h => h.elim c111 (fun g => g c128))).symm) rfl ⟨rfl, rfl, rfl, rfl, rfl, rfl, rfl, rfl, rfl, rfl, rfl, rfl, trivial⟩
          refine v_aload_n hX 3 43 rfl rfl rfl ?_
          refine v_iload hX 44 rfl rfl ?_
          refine v_ialg hX aC_274 (vp_in_nI (by omega) (by decide)) 45 rfl ?_
          rw [hA4 _ _ (by omega)]
          refine v_if_lt hX (tgt := 103) 46 rfl (by decide) (fun c80 => ?_) (fun c80 => ?_)
          · skip
            have q80 : P p 3 = -6 := (toV_lt hw hn hp).mp c80
            refine v_iconst hX (v := 0) 60 rfl (by decide) ?_
            exact V.sub (j104 _ (if_pos (Or.inl q80)).symm) rfl ⟨rfl, rfl, rfl, rfl, rfl, rfl, rfl, rfl, rfl, rfl, rfl, trivial⟩
          · skip
            have q80 : ¬ P p 3 = -6 := fun g => c80 ((toV_lt hw hn hp).mpr g)
            refine v_aload_n hX 2 47 rfl rfl rfl ?_
            refine v_iload hX 48 rfl rfl ?_
            refine v_ialg hX aC_273 (vp_in_nI (by omega) (by decide)) 49 rfl ?_
            rw [hA3 _ _ (by omega)]
            refine v_aload hX 50 rfl rfl ?_
            refine v_iconst hX (v := 0) 51 rfl (by decide) ?_
            refine v_ialg hX aC_278 (vp_in_nI (n := 0) (by decide) (by decide)) 52 rfl ?_
            rw [hB0]
            refine v_iadd hX 53 rfl ?_
            refine v_aload hX 54 rfl rfl ?_
            refine v_iconst hX (v := 2) 55 rfl (by decide) ?_
            refine v_ialg hX aC_278 (vp_in_nI (n := 2) (by decide) (by decide)) 56 rfl ?_
            rw [hB2]
            refine v_icmp_ge hX (tgt := 103) 57 rfl (by decide) (fun c96 => ?_) (fun c96 => ?_)
            · skip
              refine v_iconst hX (v := 0) 60 rfl (by decide) ?_
              exact V.sub (j104 _ (if_pos (Or.inr c96)).symm) rfl ⟨rfl, rfl, rfl, rfl, rfl, rfl, rfl, rfl, rfl, rfl, rfl, trivial⟩
            · skip
              refine v_iconst hX (v := 1) 58 rfl (by decide) ?_
              refine v_goto hX (tgt := 104) 59 rfl (by decide) ?_
              exact V.sub (j104 _ (if_neg (fun h => h.elim q80 c96)).symm) rfl ⟨rfl, rfl, rfl, rfl, rfl, rfl, rfl, rfl, rfl, rfl, rfl, trivial⟩
        · skip
          have hqp : q < p := of_nle c25 (by omega) (by omega)
          have j67 : ∀ (v : Int32), v = (if P q 0 = P p 0 ∧ ¬ rz1 P (nI dy) (nI la) pg ov q = 1 ∧ ¬ rz1 P (nI dy) (nI la) pg ov q = 2 then P q 1 else 0) → V Y X (mput M kr ko 24 (r1A (fun z9 => M.1 kr (ko + z9)) P (nI dy) (nI la) pg ov p)) 67 [some (.ref (Y.2.2.2.1 270)), some (.ref (Y.2.2.2.1 271)), some (.ref (Y.2.2.2.1 273)), some (.ref (Y.2.2.2.1 274)), some (.ref (Y.2.2.2.1 275)), some (.ref (Y.2.2.2.1 276)), some (.ref wa), some (.ref (Y.2.2.2.1 278)), some (.int more), some (.int (nI p)), some (.int (P p 1 + tk P pg (P p 0) q)), some (.int (nI q)), none] [.int v, .int (P p 1 + tk P pg (P p 0) q)] := by
            intro v hv
            have hs := tk_rz (d := nI dy) (la := nI la) (pg := pg) (ov := ov) (s := P p 0) hw (show q < n by omega)
            rw [← hv] at hs
            refine v_iadd hX 39 rfl ?_
            refine v_istore hX 40 rfl (Nat.le_of_ble_eq_true rfl) rfl ?_
            refine v_iinc hX 41 rfl rfl (nI_inc q) (Nat.le_of_ble_eq_true rfl) rfl ?_
            refine v_goto hX (tgt := 21) 42 rfl (by decide) ?_
            refine V.subM (ihq hqp) ?_ rfl ⟨rfl, rfl, rfl, rfl, rfl, rfl, rfl, rfl, rfl, rfl, (by first | rfl | (refine congrArg (fun z : Int32 => some (Value.int z)) ?_; rw [hs, Int32.add_assoc])), rfl, trivial⟩
            rfl
          refine v_iload hX 16 rfl rfl ?_
          refine v_aload_n hX 0 17 rfl rfl rfl ?_
          refine v_iload hX 18 rfl rfl ?_
          refine v_ialg hX aC_270 (vp_in_nI (by omega) (by decide)) 19 rfl ?_
          rw [hA0 _ _ (by omega)]
          refine v_aload_n hX 0 20 rfl rfl rfl ?_
          refine v_iload hX 21 rfl rfl ?_
          refine v_ialg hX aC_270 (vp_in_nI (by omega) (by decide)) 22 rfl ?_
          rw [hA0 _ _ (by omega)]
          refine v_icmp_ne hX (tgt := 66) 23 rfl (by decide) (fun c38 => ?_) (fun c38 => ?_)
          · skip
            refine v_iconst hX (v := 0) 38 rfl (by decide) ?_
            exact V.sub (j67 _ (if_neg (fun h => c38 h.1)).symm) rfl ⟨rfl, rfl, rfl, rfl, rfl, rfl, rfl, rfl, rfl, rfl, rfl, rfl, trivial⟩
          · skip
            refine v_aload hX 24 rfl rfl ?_
            refine v_iload hX 25 rfl rfl ?_
            refine v_ialg hX hC (vp_in_nI (by omega) (by decide)) 26 rfl ?_
            rw [hAw _ _ (by omega), show r1A (fun z9 => M.1 kr (ko + z9)) P (nI dy) (nI la) pg ov p q = rz1 P (nI dy) (nI la) pg ov q from if_pos hqp]
            refine v_iconst hX (v := 1) 27 rfl (by decide) ?_
            refine v_icmp_eq hX (tgt := 66) 28 rfl (by decide) (fun c47 => ?_) (fun c47 => ?_)
            · skip
              refine v_iconst hX (v := 0) 38 rfl (by decide) ?_
              exact V.sub (j67 _ (if_neg (fun h => h.2.1 c47)).symm) rfl ⟨rfl, rfl, rfl, rfl, rfl, rfl, rfl, rfl, rfl, rfl, rfl, rfl, trivial⟩
            · skip
              refine v_aload hX 29 rfl rfl ?_
              refine v_iload hX 30 rfl rfl ?_
              refine v_ialg hX hC (vp_in_nI (by omega) (by decide)) 31 rfl ?_
              rw [hAw _ _ (by omega), show r1A (fun z9 => M.1 kr (ko + z9)) P (nI dy) (nI la) pg ov p q = rz1 P (nI dy) (nI la) pg ov q from if_pos hqp]
              refine v_iconst hX (v := 2) 32 rfl (by decide) ?_
              refine v_icmp_eq hX (tgt := 66) 33 rfl (by decide) (fun c56 => ?_) (fun c56 => ?_)
              · skip
                refine v_iconst hX (v := 0) 38 rfl (by decide) ?_
                exact V.sub (j67 _ (if_neg (fun h => h.2.2 c56)).symm) rfl ⟨rfl, rfl, rfl, rfl, rfl, rfl, rfl, rfl, rfl, rfl, rfl, rfl, trivial⟩
              · skip
                refine v_aload_n hX 1 34 rfl rfl rfl ?_
                refine v_iload hX 35 rfl rfl ?_
                refine v_ialg hX aC_271 (vp_in_nI (by omega) (by decide)) 36 rfl ?_
                rw [hA1 _ _ (by omega)]
                refine v_goto hX (tgt := 67) 37 rfl (by decide) ?_
                exact V.sub (j67 _ (if_pos ⟨c38, c47, c56⟩).symm) rfl ⟨rfl, rfl, rfl, rfl, rfl, rfl, rfl, rfl, rfl, rfl, rfl, rfl, trivial⟩
      refine V.subM (lq 0 (Nat.zero_le _)) ?_ rfl ⟨rfl, rfl, rfl, rfl, rfl, rfl, rfl, rfl, rfl, rfl, (by first | rfl | (refine congrArg (fun z : Int32 => some (Value.int z)) ?_; exact (Int32.add_zero _).symm)), rfl, trivial⟩
      rfl
  refine V.subM (lp 0 (Nat.zero_le _)) ?_ rfl ⟨rfl, rfl, rfl, rfl, rfl, rfl, rfl, rfl, rfl, rfl, trivial⟩
  rw [r1A_0, mput_self]
