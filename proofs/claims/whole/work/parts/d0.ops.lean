/-! THE TABLE: calls that only answer -/
section ZTA
variable {S M : z_M} {P : z_M → Prop} {a1 a2 a3 a4 a5 a6 : Int}
theorem zz_op9 (hS : z_sit S M) (hR : z_IRep S) (hP : ∀ N : z_M, z_sit S N → P N) : z_case 60 P M a1 a2 a3 a4 a5 a6 9 :=
  kc_report 59 hS hR ⟨⟨_, rfl⟩, km_report 58 hS hR ⟨rfl, hP _ hS⟩⟩
theorem zz_op10 (hS : z_sit S M) (hI : z_IS S) (hP : ∀ N : z_M, z_sit S N → P N) : z_case 60 P M a1 a2 a3 a4 a5 a6 10 :=
  kc_at 58 hS hI (fun M1 s1 _ => ⟨⟨_, rfl⟩, km_at 58 s1 hI (fun M2 s2 _ => ⟨rfl, hP _ s2⟩)⟩)
theorem zz_op11 (hS : z_sit S M) (hI : z_IS S) (hP : ∀ N : z_M, z_sit S N → P N) : z_case 60 P M a1 a2 a3 a4 a5 a6 11 :=
  kc_sees 55 hS hI (fun M1 s1 _ => ⟨⟨_, rfl⟩, km_sees 55 s1 hI (fun M2 s2 _ => ⟨rfl, hP _ s2⟩)⟩)
theorem zz_op12 (hS : z_sit S M) (hI : z_IS S) (hP : ∀ N : z_M, z_sit S N → P N) : z_case 60 P M a1 a2 a3 a4 a5 a6 12 :=
  kc_hears 55 hS hI (fun M1 s1 _ => ⟨⟨_, rfl⟩, km_hears 55 s1 hI (fun M2 s2 _ => ⟨rfl, hP _ s2⟩)⟩)
theorem zz_op13 (hS : z_sit S M) (hI : z_IS S) (hP : ∀ N : z_M, z_sit S N → P N) : z_case 60 P M a1 a2 a3 a4 a5 a6 13 :=
  kc_shadow 57 hS hI (fun M1 s1 _ => ⟨⟨_, rfl⟩, km_shadow 55 s1 hI (fun M2 s2 _ => ⟨rfl, hP _ s2⟩)⟩)
theorem zz_op14 (hS : z_sit S M) (hI : z_IS S) (hR : z_IRep S) (hP : ∀ N : z_M, z_sit S N → P N) : z_case 60 P M a1 a2 a3 a4 a5 a6 14 :=
  kc_holds 54 hS hI hR (fun M1 s1 _ => ⟨⟨_, rfl⟩, km_holds 52 s1 hI hR (fun M2 s2 _ => ⟨rfl, hP _ s2⟩)⟩)
theorem zz_op15 (hS : z_sit S M) (hI : z_IS S) (hR : z_IRep S) (hP : ∀ N : z_M, z_sit S N → P N) : z_case 60 P M a1 a2 a3 a4 a5 a6 15 :=
  kc_told 53 hS hI hR (fun M1 s1 _ => ⟨⟨_, rfl⟩, km_told 52 s1 hI hR (fun M2 s2 _ => ⟨rfl, hP _ s2⟩)⟩)
theorem zz_op16 (hS : z_sit S M) (hI : z_IS S) (hR : z_IRep S) (i1 : z_i32 a1) (hP : ∀ N : z_M, z_sit S N → P N) : z_case 60 P M a1 a2 a3 a4 a5 a6 16 :=
  kc_best 53 i1 hS hI hR (fun M1 s1 => ⟨⟨_, rfl⟩, km_best 51 i1 s1 hI hR (fun M2 s2 => ⟨rfl, hP _ s2⟩)⟩)
theorem zz_op17 (hS : z_sit S M) (hI : z_IS S) (hR : z_IRep S) (hP : ∀ N : z_M, z_sit S N → P N) : z_case 60 P M a1 a2 a3 a4 a5 a6 17 :=
  kc_struck 53 hS hI hR (fun M1 s1 => ⟨⟨_, rfl⟩, km_struck 51 s1 hI hR (fun M2 s2 => ⟨rfl, hP _ s2⟩)⟩)
theorem zz_op18 (hS : z_sit S M) (hI : z_IS S) (hR : z_IRep S) (hP : ∀ N : z_M, z_sit S N → P N) : z_case 60 P M a1 a2 a3 a4 a5 a6 18 :=
  kc_quarrel 53 hS hI hR (fun M1 s1 => ⟨⟨_, rfl⟩, km_quarrel 51 s1 hI hR (fun M2 s2 => ⟨rfl, hP _ s2⟩)⟩)
theorem zz_op19 (hS : z_sit S M) (hI : z_IS S) (hR : z_IRep S) (h0 : zx_Q0 S) (hP : ∀ N : z_M, z_sit S N → P N) : z_case 60 P M a1 a2 a3 a4 a5 a6 19 :=
  kc_ask 53 hS hI hR h0 (fun M1 s1 => ⟨⟨_, rfl⟩, km_ask_op 51 s1 hI hR (fun M2 s2 => ⟨rfl, hP _ s2⟩)⟩)
theorem zz_op20 (hS : z_sit S M) (hI : z_IS S) (hR : z_IRep S) (h0 : zx_Q0 S) (hP : ∀ N : z_M, z_sit S N → P N) : z_case 60 P M a1 a2 a3 a4 a5 a6 20 :=
  kc_enough 53 hS hI hR h0 (fun M1 s1 => ⟨⟨_, rfl⟩, km_enough 51 s1 hI hR (fun M2 s2 => ⟨rfl, hP _ s2⟩)⟩)
theorem zz_op21 (hS : z_sit S M) (hI : z_IS S) (i2 : z_i32 a2) (i4 : z_i32 a4) (hP : ∀ N : z_M, z_sit S N → P N) : z_case 60 P M a1 a2 a3 a4 a5 a6 21 :=
  kc_between 55 hS hI (fun M1 s1 => ⟨⟨_, rfl⟩, km_between 56 s1 hI i2 i4 (fun M2 s2 => ⟨rfl, hP _ s2⟩)⟩)
theorem zz_op22 (hS : z_sit S M) (hI : z_IS S) (i2 : z_i32 a2) (i4 : z_i32 a4) (hP : ∀ N : z_M, z_sit S N → P N) : z_case 60 P M a1 a2 a3 a4 a5 a6 22 :=
  kc_through 55 hS hI (fun M1 s1 => ⟨⟨_, rfl⟩, km_through 56 s1 hI i2 i4 (fun M2 s2 => ⟨rfl, hP _ s2⟩)⟩)
theorem zz_op23 (hS : z_sit S M) (hI : z_IS S) (i2 : z_i32 a2) (i4 : z_i32 a4) (hP : ∀ N : z_M, z_sit S N → P N) : z_case 60 P M a1 a2 a3 a4 a5 a6 23 :=
  kc_maybe 55 hS hI (fun M1 s1 => ⟨⟨_, rfl⟩, km_maybe 56 s1 hI i2 i4 (fun M2 s2 => ⟨rfl, hP _ s2⟩)⟩)
theorem zz_op24 (hS : z_sit S M) (hI : z_IS S) (i2 : z_i32 a2) (i4 : z_i32 a4) (hP : ∀ N : z_M, z_sit S N → P N) : z_case 60 P M a1 a2 a3 a4 a5 a6 24 :=
  kc_met 55 hS hI (fun M1 s1 => ⟨⟨_, rfl⟩, km_met 56 s1 hI i2 i4 (fun M2 s2 => ⟨rfl, hP _ s2⟩)⟩)
theorem zz_op25 (hS : z_sit S M) (hI : z_IS S) (hR : z_IRep S) (hP : ∀ N : z_M, z_sit S N → P N) : z_case 60 P M a1 a2 a3 a4 a5 a6 25 :=
  kc_liar 54 hS hI hR (fun M1 s1 _ => ⟨⟨_, rfl⟩, km_liar 52 s1 hI hR (fun M2 s2 _ => ⟨rfl, hP _ s2⟩)⟩)
theorem zz_op26 (hS : z_sit S M) (hI : z_IS S) (hP : ∀ N : z_M, z_sit S N → P N) : z_case 60 P M a1 a2 a3 a4 a5 a6 26 :=
  kc_falls 56 hS hI (fun M1 s1 _ => ⟨⟨_, rfl⟩, km_falls 55 s1 hI (fun M2 s2 _ => ⟨rfl, hP _ s2⟩)⟩)
theorem zz_op27 (hS : z_sit S M) (hI : z_IS S) (hR : z_IRep S) (hP : ∀ N : z_M, z_sit S N → P N) : z_case 60 P M a1 a2 a3 a4 a5 a6 27 :=
  kc_argued 53 hS hI hR (fun M1 s1 _ => ⟨⟨_, rfl⟩, km_argued 52 s1 hI hR (fun M2 s2 _ => ⟨rfl, hP _ s2⟩)⟩)
theorem zz_op30 (hS : z_sit S M) (hI : z_IS S) (hT : z_ITr S) (hK : z_ITk S) (i1 : z_i32 a1) (hP : ∀ N : z_M, z_sit S N → P N) : z_case 60 P M a1 a2 a3 a4 a5 a6 30 :=
  kc_tickets 57 i1 hS hI hT hK (fun M1 s1 => ⟨⟨_, rfl⟩, km_tickets 57 i1 s1 hI hT hK (fun M2 s2 => ⟨rfl, hP _ s2⟩)⟩)
theorem zz_op31 (hS : z_sit S M) (hI : z_IS S) (hT : z_ITr S) (hK : z_ITk S) (hP : ∀ N : z_M, z_sit S N → P N) : z_case 60 P M a1 a2 a3 a4 a5 a6 31 :=
  kc_mayHave 57 hS hI hT hK (fun M1 s1 => ⟨⟨_, rfl⟩, km_mayHave 57 s1 hI hT hK (fun M2 s2 => ⟨rfl, hP _ s2⟩)⟩)
theorem zz_op32 (hS : z_sit S M) (hI : z_IS S) (hP : ∀ N : z_M, z_sit S N → P N) : z_case 60 P M a1 a2 a3 a4 a5 a6 32 :=
  kc_word 54 hS hI (fun M1 s1 _ => ⟨⟨_, rfl⟩, km_word 54 s1 hI (fun M2 s2 _ => ⟨rfl, hP _ s2⟩)⟩)
theorem zz_op33 (hS : z_sit S M) (hI : z_IS S) (hP : ∀ N : z_M, z_sit S N → P N) : z_case 60 P M a1 a2 a3 a4 a5 a6 33 :=
  kc_knows 54 hS hI (fun M1 s1 _ => ⟨⟨_, rfl⟩, km_knows 54 s1 hI (fun M2 s2 _ => ⟨rfl, hP _ s2⟩)⟩)
theorem zz_op34 (hS : z_sit S M) (hI : z_IS S) (hP : ∀ N : z_M, z_sit S N → P N) : z_case 60 P M a1 a2 a3 a4 a5 a6 34 :=
  kc_paged 56 hS hI (fun M1 s1 => ⟨⟨_, rfl⟩, km_paged 56 s1 hI (fun M2 s2 => ⟨rfl, hP _ s2⟩)⟩)
theorem zz_op37 (hS : z_sit S M) (hI : z_IS S) (hH : z_ITh S) (hP : ∀ N : z_M, z_sit S N → P N) : z_case 60 P M a1 a2 a3 a4 a5 a6 37 :=
  kc_where 57 hS hI hH (fun M1 s1 => ⟨⟨_, rfl⟩, km_where 58 s1 hI hH (fun M2 s2 => ⟨rfl, hP _ s2⟩)⟩)
theorem zz_op38 (hS : z_sit S M) (hI : z_IS S) (hP : ∀ N : z_M, z_sit S N → P N) : z_case 60 P M a1 a2 a3 a4 a5 a6 38 :=
  kc_unseen 54 hS hI (fun M1 s1 => ⟨⟨_, rfl⟩, km_unseen 53 s1 hI (fun M2 s2 => ⟨rfl, hP _ s2⟩)⟩)
theorem zz_op39 (hS : z_sit S M) (hI : z_IS S) (hP : ∀ N : z_M, z_sit S N → P N) : z_case 60 P M a1 a2 a3 a4 a5 a6 39 :=
  kc_never 54 hS hI (fun M1 s1 => ⟨⟨_, rfl⟩, km_never 53 s1 hI (fun M2 s2 => ⟨rfl, hP _ s2⟩)⟩)
theorem zz_op40 (hS : z_sit S M) (hI : z_IS S) (hP : ∀ N : z_M, z_sit S N → P N) : z_case 60 P M a1 a2 a3 a4 a5 a6 40 :=
  kc_blind 54 hS hI (fun M1 s1 => ⟨⟨_, rfl⟩, km_blind 54 s1 hI (fun M2 s2 => ⟨rfl, hP _ s2⟩)⟩)
theorem zz_op46 (hS : z_sit S M) (hI : z_IS S) (hR : z_IRep S) (hT : z_ITr S) (hK : z_ITk S) (hH : z_ITh S) (hz : S 13 1 = S 2 1) (i1 : z_i32 a1) (hP : ∀ N : z_M, z_sit S N → P N) : z_case 60 P M a1 a2 a3 a4 a5 a6 46 :=
  kc_count 57 i1 hS hI hR hT hK hH ⟨⟨_, rfl⟩, km_count 57 i1 hS hI hz ⟨rfl, hP _ hS⟩⟩
end ZTA
