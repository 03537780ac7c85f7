section NUM
variable {κ α β γ : Nat → Int32} {E M : Nat}
/-- deep codes and their nodes, of any store -/
theorem marks_Dp (hS : Store κ α β γ E M) (hM : M < 2 ^ 31) (hE : E ≤ 16) {D0 : Nat → Int32} (h01 : ∀ q, D0 q = 0 ∨ D0 q = 1) {T : Nat → Prop} (hT : ∀ m, m < M → (¬ D0 m = 0 ↔ T m)) : ∀ c, Dp (fun c => ∃ m, m < M ∧ T m ∧ cd κ α β γ m = c) c ↔ ∃ m, m < M ∧ ¬ mpAll κ α β γ M D0 m = 0 ∧ cd κ α β γ m = c := by
  have e0 : ∀ c, mkR κ α β γ M D0 c ↔ ∃ m, m < M ∧ T m ∧ cd κ α β γ m = c := fun c => ⟨fun ⟨m, hm, hd, e⟩ => ⟨m, hm, (hT m hm).mp hd, e⟩, fun ⟨m, hm, ht, e⟩ => ⟨m, hm, (hT m hm).mpr ht, e⟩⟩
  intro c
  constructor
  · intro hc
    obtain ⟨m, hm, e⟩ := Dp_node hS hM hE (R := fun c => ∃ m, m < M ∧ T m ∧ cd κ α β γ m = c) (fun c ⟨m, hm, _, e⟩ => ⟨m, hm, e⟩) hc
    refine ⟨m, hm, (mpAll_Dp hS hM hE h01 hm).mpr ?_, e⟩
    rw [e]
    exact Dp_mono (fun c hc => (e0 c).mpr hc) hc
  · rintro ⟨m, hm, hd, e⟩
    have := (mpAll_Dp hS hM hE h01 hm).mp hd
    rw [← e]
    exact Dp_mono (fun c hc => (e0 c).mp hc) this
theorem marks_num (hS : Store κ α β γ E M) (hM : M < 2 ^ 31) (hE : E ≤ 16) {D0 : Nat → Int32} (h01 : ∀ q, D0 q = 0 ∨ D0 q = 1) {T : Nat → Prop} (hT : ∀ m, m < M → (¬ D0 m = 0 ↔ T m)) :
    NumOf (kW (Dp (fun c => ∃ m, m < M ∧ T m ∧ cd κ α β γ m = c))) (cnt (gW κ (mpAll κ α β γ M D0)) M) ∧ NumOf (kT (Dp (fun c => ∃ m, m < M ∧ T m ∧ cd κ α β γ m = c))) (cnt (gT κ (mpAll κ α β γ M D0)) M) := by
  have hD := marks_Dp hS hM hE h01 hT
  have kk := fun m (hm : m < M) => cd_kind hS.2.1 hM hE hm
  constructor
  · refine NumOf_cnt (cf := fun m => cd κ α β γ m) (fun m m' hm hm' e => cd_inj hS hM hE m m' hm hm' e) (fun m hm hp => ?_) (fun c hc => ?_)
    · unfold gW at hp
      rw [Bool.and_eq_true, Bool.not_eq_true', decide_eq_false_iff_not, Bool.or_eq_true, decide_eq_true_iff, decide_eq_true_iff] at hp
      refine ⟨(hD _).mpr ⟨m, hm, hp.1, rfl⟩, ?_⟩
      have b := (kk m hm).2.1
      rw [(kk m hm).1] at hp
      rcases hp.2 with q | q
      · left; exact (nI_eq (a := p1 (cd κ α β γ m)) (b := 3) (by omega) (by decide)).mp q
      · right; exact (nI_eq (a := p1 (cd κ α β γ m)) (b := 5) (by omega) (by decide)).mp q
    · obtain ⟨hc1, hk⟩ := hc
      obtain ⟨m, hm, hd, e⟩ := (hD c).mp hc1
      refine ⟨m, hm, ?_, e⟩
      unfold gW
      rw [Bool.and_eq_true, Bool.not_eq_true', decide_eq_false_iff_not, Bool.or_eq_true, decide_eq_true_iff, decide_eq_true_iff, (kk m hm).1, e]
      refine ⟨hd, ?_⟩
      rcases hk with q | q
      · rw [q]; exact Or.inl rfl
      · rw [q]; exact Or.inr rfl
  · refine NumOf_cnt (cf := fun m => cd κ α β γ m) (fun m m' hm hm' e => cd_inj hS hM hE m m' hm hm' e) (fun m hm hp => ?_) (fun c hc => ?_)
    · unfold gT at hp
      rw [Bool.and_eq_true, Bool.not_eq_true', decide_eq_false_iff_not, Bool.or_eq_true, decide_eq_true_iff, decide_eq_true_iff] at hp
      refine ⟨(hD _).mpr ⟨m, hm, hp.1, rfl⟩, ?_⟩
      have b := (kk m hm).2.1
      rw [(kk m hm).1] at hp
      rcases hp.2 with q | q
      · right; exact (nI_eq (a := p1 (cd κ α β γ m)) (b := 4) (by omega) (by decide)).mp q
      · left; exact (nI_eq (a := p1 (cd κ α β γ m)) (b := 2) (by omega) (by decide)).mp q
    · obtain ⟨hc1, hk⟩ := hc
      obtain ⟨m, hm, hd, e⟩ := (hD c).mp hc1
      refine ⟨m, hm, ?_, e⟩
      unfold gT
      rw [Bool.and_eq_true, Bool.not_eq_true', decide_eq_false_iff_not, Bool.or_eq_true, decide_eq_true_iff, decide_eq_true_iff, (kk m hm).1, e]
      refine ⟨hd, ?_⟩
      rcases hk with q | q
      · rw [q]; exact Or.inr rfl
      · rw [q]; exact Or.inl rfl
end NUM
/-- what was asked: the work store, the question, the counts -/
def AskO (O : qOb9) (u p w q E I M : Nat) (S : qS) (eS : Nat → Bool) (iv : Nat → Nat) (D : Nat → Prop) (fx : Int32) (dw dt : Nat) : Prop :=
  CS O w 5732 2048 S E M ∧ ElW w S E eS ∧ (3 + E ≤ M ∧ ∀ m, 3 + E ≤ m → m < M → ¬ S.1 w 0 m ≤ 4) ∧ QI S q w I M iv ∧ (∀ m, S.1 p 3 m = 0 ∨ S.1 p 3 m = 1) ∧ S.1 u 5 0 = nI dw ∧ S.1 u 6 0 = nI dt ∧ dw ≤ 6000 ∧ dt ≤ 6000 ∧ NumOf (kW D) dw ∧ NumOf (kT D) dt ∧ S.1 u 2 0 = nI E ∧ S.1 u 3 0 = fx ∧ ∀ i, i < 16 → S.1 u 0 i = 0
section OUTB
variable {O : qOb9} {x c u p f w q s l n : Nat} {S : qS}
theorem cls_outBegin (hO : ClO O x c u p f w q s l) (hn : 7000 ≤ n) (a b : Int32) : ∃ S', G_XOutcome_begin O n u a b S = some ((), S') ∧ rOnly u S S' ∧ (∀ i, i < 16 → S'.1 u 0 i = 0) ∧ S'.1 u 1 = S.1 u 1 ∧ S'.1 u 2 0 = a ∧ S'.1 u 3 0 = b ∧ S'.1 u 4 = S.1 u 4 ∧ S'.1 u 5 0 = 0 ∧ S'.1 u 6 0 = 0 := by
  obtain ⟨⟨h1, h2, h3, h4, h5, h6, h7⟩, _, _, ⟨l1, l2, l3, l4, l5, l6⟩, _⟩ := hO
  unfold G_XOutcome_begin
  rw [uA (ci := 4) h3 (by decide), cls_fill (ci := 4) h3 (by decide) l6 (by omega) (by omega), yV_some, uP (ci := 4) h3 (by decide), uP (ci := 4) h3 (by decide), uP (ci := 4) h3 (by decide), uP (ci := 4) h3 (by decide)]
  refine ⟨_, rfl, setF_only.trans (rOnly.up.trans (rOnly.up.trans (rOnly.up.trans rOnly.up))), fun i hi => ?_, ?_, ?_, ?_, ?_, ?_, up3_v⟩
  · rw [up3_f (by decide), up3_f (by decide), up3_f (by decide), up3_f (by decide), setF_same]
    exact if_pos hi
  · rw [up3_f (by decide), up3_f (by decide), up3_f (by decide), up3_f (by decide), setF_ne (by decide)]
  · rw [up3_f (by decide), up3_f (by decide), up3_f (by decide), up3_v]
  · rw [up3_f (by decide), up3_f (by decide), up3_v]
  · rw [up3_f (by decide), up3_f (by decide), up3_f (by decide), up3_f (by decide), setF_ne (by decide)]
  · rw [up3_f (by decide), up3_v]
end OUTB
