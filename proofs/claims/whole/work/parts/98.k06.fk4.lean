/-! ===== more of the state ===== -/
section DCJ
theorem G.lsw {E : gE} {K : gM} {cc : ByteArray} {Q : gU} {f : Nat → va_E} {pc : Nat} {lv : List (Nat × Value)} {st : List Value} {dflt : Int} {ps : Array (Int × Int)} {len : Nat} {x : Int32} (tgt : Nat) (off : Int) (d : decode cc pc = .ok (.lookupswitch dflt ps, len)) (hp : (ps.toList.zip (ps.toList.drop 1)).all (fun (a, next) => a.1 < next.1) = true) (ho : Op.lookupswitch.offset ps.toList dflt x.toInt = off) (ht : (pc : Int) + off = (tgt : Int)) (kk : G E K cc Q tgt lv st f) : G E K cc Q pc lv (.int x :: st) f := by
  intro p e s m args below meth c C H locs ls hP hD hS hl
  exact lv_lookup C.1 C.2.1 d hp ho ht (kk p e s m args below meth c C H locs ls hP hD hS hl)
/-- how many blocks rest at all -/
def rsT (rs : Nat → Nat) (N : Nat) : Nat := rsC (fun b => if rs b = 0 then 0 else 1) 1 N
theorem RsR.tot {N : Nat} {C : CfT} {rs : Nat → Nat} (hN : N ≤ 1024) (h : RsR N C rs) : cS C 1711 = nI (rsT rs N) := by
  obtain ⟨q, m, h1, h2, h3, h4, h5, h6, h7⟩ := h
  have e : rsT rs N = m := rsC_is N m (fun i => (cA C 24 i).toNatClampNeg) (fun i hi => by
    obtain ⟨b, b1, b2, b3⟩ := h5 i hi
    show (cA C 24 i).toNatClampNeg < N ∧ (if rs (cA C 24 i).toNatClampNeg = 0 then 0 else 1) = 1
    rw [b2, nI_clamp (by omega)]
    refine ⟨b1, if_neg ?_⟩
    rw [b3]
    split <;> decide) (fun i j hi hj e => by
    have e : (cA C 24 i).toNatClampNeg = (cA C 24 j).toNatClampNeg := e
    obtain ⟨b, b1, b2, b3⟩ := h5 i hi
    obtain ⟨d, d1, d2, d3⟩ := h5 j hj
    rw [b2, d2, nI_clamp (by omega), nI_clamp (by omega)] at e
    exact h6 i j hi hj (by rw [b2, d2, e])) (fun b hb hv => by
    have hv : (if rs b = 0 then 0 else 1) = 1 := hv
    rcases h7 b hb with ⟨q1, q2⟩ | ⟨q1, i, hi, q2⟩
    · rw [if_pos q1] at hv
      cases hv
    · exact ⟨i, hi, by show (cA C 24 i).toNatClampNeg = b; rw [q2, nI_clamp (by omega)]⟩)
  rw [e, h4]
theorem AR.s1711 {N B gr : Nat} {A : MS} {C : CfT} (h : AR N B gr A C) (hN : N ≤ 1024) : cS C 1711 = nI (rsT A.2.2.2.2.1 N) := h.2.2.2.2.2.2.1.tot hN
theorem AR.s1708 {N B gr : Nat} {A : MS} {C : CfT} (h : AR N B gr A C) : cS C 1708 = nI A.2.2.2.1.length := by
  obtain ⟨en, hq⟩ := h.2.2.2.2.1
  exact hq.2.1
end DCJ
