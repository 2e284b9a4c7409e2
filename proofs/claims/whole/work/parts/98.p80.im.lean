/-! ===== pure: mounted, between calls ===== -/
section PXE
variable {N B gr r u : Nat} {V : Nat → Rw} {m : M5} {tk : Nat → Bool} {ow : Nat → Int} {s0 : S3} {l : List Nat} {A : MS} {D : CfT} {R : RfT} {g : Bool} {hd hi : Nat → Nat} {tp : Nat → Int32} {tl : Nat}
/-- as it was behind the first j changes of the queue -/
def Wj (m : M5) (j b : Nat) : Rw := befV m.1 m.2.1 (m.2.2.2.1.take j) b
/-- the head of the disk -/
def mH00 (N : Nat) : Rw := nr (hRow N (fun _ => 0))
/-- whatever a crash leaves: the log can be read, and what is seen then is in order -/
def GM (N : Nat) (m : M5) : Prop := (∀ y, hPs m.1 0 y → y = mH00 N) ∧ (∀ y, hPs m.1 1 y → y = mHd m.2.1 m.2.2.1) ∧ (∀ y, hPs m.1 2 y → ∀ k, k < 2 * m.2.1.length → y k = mNm m.2.1 k) ∧ (∀ j, j ≤ m.2.2.2.1.length → WF N (Wj m j)) ∧ ∀ j, j ≤ m.2.2.2.1.length → ∀ b, 43 ≤ b → b < N → (b < 61 ∨ isT (Wj m j) b) → qVal (m.2.2.2.1.take j) b ≠ none ∨ lVal m.2.1 b ≠ none ∨ ∀ y, hPs m.1 b y → y = hSee m.1 b
/-- older tables rest, or are tables still -/
def GJ (m : M5) : Prop := (∀ j, j ≤ m.2.2.2.1.length → ∀ b, isT (Wj m j) b → isT (befM m) b ∨ m.2.2.2.2 b = 1) ∧ ∀ b, btM (befM m 43) b = 1 → m.2.2.2.2 b ≠ 1
def HdW (V : Nat → Rw) (hd hi : Nat → Nat) : Prop := hd 0 = 0 ∧ (∀ i, ir i → hd i ≠ 0 → f1 V i 0 ≠ 0) ∧ ∀ k, k < 32 → hi k ≠ 0 → ir (hi k) ∧ f1 V (hi k) 0 = 1
def Phi (m : M5) : Nat := hSp m.1 + 100 * m.2.2.2.1.length
def MB (N B gr u : Nat) (m : M5) : Prop := MOk N B m ∧ Phi m ≤ u ∧ m.2.2.2.1.length < gr ∧ gr ≤ 16 ∧ (∀ b, b < N → m.2.2.2.2 b < 3) ∧ RZ N m ∧ GM N m ∧ GJ m
/-- nothing of the group, where there is none -/
def NG (N : Nat) (A : MS) (m : M5) (V : Nat → Rw) (tk : Nat → Bool) : Prop := NoO A ∧ (∀ b, 43 ≤ b → b < N → V b = befM m b) ∧ (∀ b, tk b = false) ∧ ∀ b, m.2.2.2.2 b ≠ 2
def Fx (N : Nat) (D : CfT) (R : RfT) (g : Bool) (tp : Nat → Int32) (tl : Nat) : Prop := TpR D R tp ∧ cS D 1 = nI tl ∧ rS R 5 = nI tl ∧ tl ≤ 1024 ∧ (cS D 2 = 1 ∧ Byt (cA D 53)) ∧ rS R 21 = 1 ∧ rS R 34 = bI g ∧ Byt (rA R 48)
def IM (N B gr u : Nat) (g : Bool) (A : MS) (D : CfT) (R : RfT) (m : M5) (V : Nat → Rw) (tk : Nat → Bool) (hd hi : Nat → Nat) (tp : Nat → Int32) (tl : Nat) : Prop := JX N B gr A D R m V tk ∧ WF N V ∧ MB N B gr u m ∧ (g = true → OwT A R m V) ∧ St N B m (befM m) (fun _ => false) m V tk ∧ HRel D R hd hi ∧ HdW V hd hi ∧ Fx N D R g tp tl ∧ gA A = g ∧ (g = false → NG N A m V tk) ∧ (∀ b, oA A b ≠ none → btM (V 43) b = 1) ∧ Byt (cA D 42)
/-- the log of an image -/
def Rec (N : Nat) (img : Nat → Rw) (L : List En) (tu : Int32) : Prop := L.length ≤ 40 ∧ (∀ p ∈ L, 43 ≤ p.1 ∧ p.1 < N) ∧ img 1 = mHd L tu ∧ (∀ k, k < 2 * L.length → img 2 k = mNm L k) ∧ ∀ k, k < L.length → img (3 + k) = (lAt L k).2
/-- no file system, or one in order -/
def Img (N : Nat) (img : Nat → Rw) : Prop := img 0 ≠ mH00 N ∨ ∃ L tu, Rec N img L tu ∧ WF N (fun b => oSee (lVal L b) (img b))
/-- whatever a crash leaves is in order -/
def Safe (N : Nat) (h : Hw) : Prop := ∀ img : Nat → Rw, (∀ t, t < N → hPs h t (img t)) → Img N img
/-- and not too many stamps are used -/
def Sfe (N u : Nat) (h : Hw) : Prop := Safe N h ∧ hSp h ≤ u
/-- what never changes of the reference -/
def KC (N B gr : Nat) (R : RfT) : Prop := rS R 1 = nI N ∧ rS R 2 = nI B ∧ rS R 3 = nI gr
theorem RY.kc (h : RY N B gr R m V tk) : KC N B gr R := by
  obtain ⟨wf, w, d⟩ := h.1.1.1.db
  exact ⟨h.1.1.2.2.2.2.2.2.1, d.2.2.2.2.1.1, h.1.1.2.2.2.2.2.2.2⟩
def SfT (N u : Nat) (A : MS) (D : CfT) : Prop := Sfe N u A.1 ∧ TJ N A D
/-- the power failed in a call -/
def Dead (N u : Nat) (R0 : RfT) (A' : MS) (D' : CfT) (R' : RfT) : Prop := Dd N R0 A'.1 R' ∧ SfT N u A' D'
theorem Mr.phi (hN1 : 61 ≤ N) {m' : M5} (h : Mr N B m m') (hm : MOk N B m) : Phi m' ≤ Phi m := (h.2 (fun x => MOk N B x ∧ Phi x ≤ Phi m) ⟨hm, Nat.le_refl _⟩ (fun x ⟨h1, h2⟩ ht => ⟨flM_ok hN1 h1 ht, by
  have q := flM_sp hN1 h1 ht
  unfold Phi at h2 ⊢
  show hSp (flM N B x).1 + 100 * 0 ≤ _
  omega⟩) (fun x rs ⟨h1, h2⟩ => ⟨h1, h2⟩)).2
theorem IM.bud (hN1 : 61 ≤ N) (hu : u + 4200 < 2 ^ 31) (h : IM N B gr u g A D R m V tk hd hi tp tl) : Bud N B (rmM N m V) m V := by
  obtain ⟨h1, h2, ⟨b1, b2, b3, b4, b5, b6, b7⟩, h4⟩ := h
  refine ⟨b1, ?_, by omega, b5, ?_, b6⟩
  · unfold Phi at b2
    omega
  · have := h1.1.rs2
    unfold rmM
    omega
/-- a call begins -/
theorem IM.wk (hN1 : 61 ≤ N) (hu : u + 4200 < 2 ^ 31) (h : IM N B gr u g A D R m V tk hd hi tp tl) (ho : OwT A R m V) : WK N B gr (rmM N m V) (m, V, tk) [] A D R m V tk (fun _ => 0) := ⟨h.1, h.2.1.s, h.bud hN1 hu, ho, St.rf, fun _ _ _ hc => Or.inl hc⟩
theorem Bud.wkn {r' : Nat} (h : Bud N B r m V) (hr : r' ≤ r) : Bud N B r' m V := by
  obtain ⟨h1, h2, h3, h4, h5, h6⟩ := h
  exact ⟨h1, h2, h3, h4, by omega, h6⟩
theorem WK.wkn {r' : Nat} (h : WK N B gr r s0 l A D R m V tk ow) (hr : r' ≤ r) : WK N B gr r' s0 l A D R m V tk ow := ⟨h.1, h.2.1, h.2.2.1.wkn hr, h.2.2.2⟩
theorem z_nm_l : ∀ (n k : Nat) (X : RfT), k ≤ 1024 → 1024 - k < n → Fn [] [49] R X → (∀ c, c < k → rA X 49 c = 0) → ∃ R', e_notMounted_2 n X (nI k) = e_notMounted_2 1 R' (nI 1024) ∧ Fn [] [49] R R' ∧ ∀ c, c < 1024 → rA R' 49 c = 0 := by
  intro n
  induction n with
  | zero => intro k _ _ h; exact absurd h (Nat.not_lt_zero _)
  | succ n ih =>
    intro k X hk hn f hz
    by_cases c : k = 1024
    · refine ⟨X, ?_, f, fun d hd => hz d (by omega)⟩
      rw [c, e_notMounted_2, e_notMounted_2, if_pos (show (1024 : Int32) ≤ nI 1024 from nI_le (a := 1024) (b := 1024) (by decide) (by decide)), if_pos (show (1024 : Int32) ≤ nI 1024 from nI_le (a := 1024) (b := 1024) (by decide) (by decide))]
    · rw [e_notMounted_2, if_neg (show ¬ (1024 : Int32) ≤ nI k from nI_ge (b := 1024) (by omega) (by decide)), st_n (by omega) (by decide), show vp_nar .boolean (0 : Int32) = 0 by decide, nI_1]
      refine ih (k + 1) _ (by omega) (by omega) (f.tr (Fn.a (by decide))) (fun d hd => ?_)
      rw [rA_e]
      by_cases e : d = k
      · rw [e, pk_us]
      · rw [pk_un e]
        exact hz d (by omega)
end PXE
