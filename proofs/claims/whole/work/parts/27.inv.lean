/-! WHAT HOLDS BETWEEN TWO CALLS -/
noncomputable def xf_if (p : Prop) (a b : Int) : Int := @ite _ p (Classical.propDecidable _) a b
theorem xf_if_t {p : Prop} {a b : Int} (h : p) : xf_if p a b = a := by unfold xf_if; rw [if_pos h]
theorem xf_if_f {p : Prop} {a b : Int} (h : ¬ p) : xf_if p a b = b := by unfold xf_if; rw [if_neg h]
theorem xf_if_c {p q : Prop} {a b : Int} (h : p ↔ q) : xf_if p a b = xf_if q a b := by rw [propext h]
abbrev xr_sh (h : xq_H) : xq_H := fun o => h (o + 28)
/-- what a question of the class leaves as it is -/
abbrev xr_ck (h h' : xq_H) : Prop := xs_eq [1, 26, 27, 28, 29, 62, 63] h h'
theorem xr_ck_kp {h h' : xq_H} (a : xr_kp h h') : xr_ck h h' := xs_tr xs_rf a.1 (X := []) (by decide) (by decide)
theorem xr_ck_tr {h h1 h2 : xq_H} (a : xr_ck h h1) (b : xr_ck h1 h2) : xr_ck h h2 := xs_tr a b (fun _ z => z) (fun _ z => z)
theorem xr_now_fr {X : List Nat} {h h' : xq_H} {m : Int → Int} {P : List xf_Cl} (hs : xs_eq X h h') (hX : ∀ o ∈ [2, 3, 4, 5, 6, 7, 8, 9, 10, 11, 12, 13, 14, 15, 16, 17, 18, 19, 20, 21, 22, 23, 24, 25], o ∉ X) (N : xr_now h m P) : xr_now h' m P := by
  have e := fun o ho => hs o (hX o ho)
  refine ⟨xr_base_fr hs (fun o ho => hX o ?_) N.bs, ?_, ?_, ?_, ?_, ?_, ?_, ?_, ?_, ?_, ?_, ?_, ?_⟩
  · revert o
    decide
  · rw [e 5 (by decide)]; exact N.wt
  · rw [e 13 (by decide)]; exact N.ty
  · rw [e 13 (by decide)]; exact N.ts
  · rw [e 14 (by decide)]; exact N.sd
  · rw [e 15 (by decide)]; exact N.fi
  · rw [e 21 (by decide)]; exact N.bk
  · rw [e 22 (by decide)]; exact N.b1
  · rw [e 23 (by decide)]; exact N.b2
  · rw [e 24 (by decide)]; exact N.b3
  · rw [e 2 (by decide)]; exact N.ta
  · rw [e 25 (by decide)]; exact N.tp
  · rw [e 2 (by decide)]; exact N.pn
abbrev xr_ok (h : xq_H) (m : Int → Int) (P : List xf_Cl) (T : Int) : Prop :=
  (xr_now h m P) ∧
  (xf_VM m) ∧
  (xf_VN m) ∧
  (xf_ph m P) ∧
  (m 1 ≤ T)
theorem xr_ok.now {h : xq_H} {m : Int → Int} {P : List xf_Cl} {T : Int} (B : xr_ok h m P T) : xr_now h m P := B.1
theorem xr_ok.vm {h : xq_H} {m : Int → Int} {P : List xf_Cl} {T : Int} (B : xr_ok h m P T) : xf_VM m := B.2.1
theorem xr_ok.vn {h : xq_H} {m : Int → Int} {P : List xf_Cl} {T : Int} (B : xr_ok h m P T) : xf_VN m := B.2.2.1
theorem xr_ok.ph {h : xq_H} {m : Int → Int} {P : List xf_Cl} {T : Int} (B : xr_ok h m P T) : xf_ph m P := B.2.2.2.1
theorem xr_ok.ty {h : xq_H} {m : Int → Int} {P : List xf_Cl} {T : Int} (B : xr_ok h m P T) : m 1 ≤ T := B.2.2.2.2
abbrev xr_in (h : xq_H) (P Pk : List xf_Cl) (T : Int) : Prop :=
  (xr_ok h (h 65) P T) ∧
  (h 0 2 = h 64 4) ∧
  (h 64 4 = 0 ∨ h 64 4 = 1) ∧
  (h 64 4 = 1 → xr_ok (xr_sh h) (h 66) Pk T) ∧
  (h 60 1 = h 64 27) ∧
  (0 ≤ h 64 27 ∧ h 64 27 ≤ 1000) ∧
  (∀ i : Int, 0 ≤ i → i < 20 → i < h 64 27 → h 61 i = h 79 i)
theorem xr_in.ok {h : xq_H} {P Pk : List xf_Cl} {T : Int} (B : xr_in h P Pk T) : xr_ok h (h 65) P T := B.1
theorem xr_in.ki {h : xq_H} {P Pk : List xf_Cl} {T : Int} (B : xr_in h P Pk T) : h 0 2 = h 64 4 := B.2.1
theorem xr_in.kb {h : xq_H} {P Pk : List xf_Cl} {T : Int} (B : xr_in h P Pk T) : h 64 4 = 0 ∨ h 64 4 = 1 := B.2.2.1
theorem xr_in.kn {h : xq_H} {P Pk : List xf_Cl} {T : Int} (B : xr_in h P Pk T) : h 64 4 = 1 → xr_ok (xr_sh h) (h 66) Pk T := B.2.2.2.1
theorem xr_in.ra {h : xq_H} {P Pk : List xf_Cl} {T : Int} (B : xr_in h P Pk T) : h 60 1 = h 64 27 := B.2.2.2.2.1
theorem xr_in.rb {h : xq_H} {P Pk : List xf_Cl} {T : Int} (B : xr_in h P Pk T) : 0 ≤ h 64 27 ∧ h 64 27 ≤ 1000 := B.2.2.2.2.2.1
theorem xr_in.tr {h : xq_H} {P Pk : List xf_Cl} {T : Int} (B : xr_in h P Pk T) : ∀ i : Int, 0 ≤ i → i < 20 → i < h 64 27 → h 61 i = h 79 i := B.2.2.2.2.2.2
theorem xr_ok_T {h : xq_H} {m : Int → Int} {P : List xf_Cl} {T T' : Int} (I : xr_ok h m P T) (hT : T ≤ T') : xr_ok h m P T' := ⟨I.now, I.vm, I.vn, I.ph, Int.le_trans I.ty hT⟩
theorem xr_in_T {h : xq_H} {P Pk : List xf_Cl} {T T' : Int} (I : xr_in h P Pk T) (hT : T ≤ T') : xr_in h P Pk T' := ⟨xr_ok_T I.ok hT, I.ki, I.kb, fun z => xr_ok_T (I.kn z) hT, I.ra, I.rb, I.tr⟩
theorem xr_in_ck {h h' : xq_H} {P Pk : List xf_Cl} {T : Int} (a : xr_ck h h') (I : xr_in h P Pk T) : xr_in h' P Pk T := by
  have e65 : h' 65 = h 65 := a 65 (by decide)
  have e64 : h' 64 = h 64 := a 64 (by decide)
  have e66 : h' 66 = h 66 := a 66 (by decide)
  refine ⟨⟨by rw [e65]; exact xr_now_fr a (by decide) I.ok.now, by rw [e65]; exact I.ok.vm, by rw [e65]; exact I.ok.vn, by rw [e65]; exact I.ok.ph, by rw [e65]; exact I.ok.ty⟩, ?_, ?_, ?_, ?_, ?_, ?_⟩
  · rw [e64, a 0 (by decide)]; exact I.ki
  · rw [e64]; exact I.kb
  · intro z
    rw [e64] at z
    rw [e66]
    have K := I.kn z
    refine ⟨xr_now_fr (X := [0, 1, 34, 35]) (h := xr_sh h) (fun o ho => ?_) (by decide) K.now, K.vm, K.vn, K.ph, K.ty⟩
    refine a (o + 28) (fun z => ho ?_)
    simp only [List.mem_cons, List.not_mem_nil, or_false] at z ⊢
    omega
  · rw [e64, a 60 (by decide)]; exact I.ra
  · rw [e64]; exact I.rb
  · rw [e64, a 61 (by decide), a 79 (by decide)]; exact I.tr
theorem xr_in_rk {h h' : xq_H} {P Pk : List xf_Cl} {T : Int} (a : xr_rk h h') (I : xr_in h P Pk T) : xr_in h' P Pk T := by
  have e65 : h' 65 = h 65 := xr_rk_65 a
  have e66 : h' 66 = h 66 := a.1 66 (by decide)
  have e4 : h' 64 4 = h 64 4 := a.2 4 (by decide)
  have e27 : h' 64 27 = h 64 27 := a.2 27 (by decide)
  refine ⟨⟨by rw [e65]; exact xr_now_fr a.1 (by decide) I.ok.now, by rw [e65]; exact I.ok.vm, by rw [e65]; exact I.ok.vn, by rw [e65]; exact I.ok.ph, by rw [e65]; exact I.ok.ty⟩, ?_, ?_, ?_, ?_, ?_, ?_⟩
  · rw [e4, a.1 0 (by decide)]; exact I.ki
  · rw [e4]; exact I.kb
  · intro z
    rw [e4] at z
    rw [e66]
    have K := I.kn z
    refine ⟨xr_now_fr (X := [36, 39, 40, 41, 42, 43, 44, 45, 46, 47, 48, 49, 50]) (h := xr_sh h) (fun o ho => ?_) (by decide) K.now, K.vm, K.vn, K.ph, K.ty⟩
    refine a.1 (o + 28) (fun z => ho ?_)
    simp only [List.mem_cons, List.not_mem_nil, or_false] at z ⊢
    omega
  · rw [e27, a.1 60 (by decide)]; exact I.ra
  · rw [e27]; exact I.rb
  · rw [e27, a.1 61 (by decide), a.1 79 (by decide)]; exact I.tr
