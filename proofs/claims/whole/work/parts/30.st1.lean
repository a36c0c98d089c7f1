set_option maxHeartbeats 4000000 in
set_option maxRecDepth 100000 in
theorem k_J6_numberOfLeadingZeros_0f7a4 (l : Launch) (D : va_G) (cI cZ cJ : ClassId) (hz9 : Nat) (x0 : Int32) (x : Nat) (hxv : x0 = iI ↑x) (hx4 : x < 1024) : Met l yJ6_numberOfLeadingZeros_0f7a4 (ws_ yJ6_numberOfLeadingZeros_0f7a4 cJ6_numberOfLeadingZeros_0f7a4 2 (Option.some .int)) ({ frames := 0, cells := 0, slots := 0, locals := 0 }) (va_Pc [.int x0] (wPre D cI cZ cJ hz9 [])) (va_Qi (fun r (_ : Unit) => (r = iI (32 - ↑(nb x)))) (fun _ _ => True) (fun _ => False)) 0 0 (fun _ => False) := by
  refine Met.ofW (cc := cJ6_numberOfLeadingZeros_0f7a4) (maxL := 2) (ret := (Option.some .int)) (by decide) rfl ?_
  intro p e s m args below meth c s₁ hBd hml hv
  obtain ⟨rfl, hsz, hP, hD, hK, hT, hZ⟩ := hv
  have hx := hBd.exec
  have hb := hBd.bytes
  have hr := hBd.returns
  have hts : ∀ w ∈ lw_G, w.before _ s = true := fun w h => atoms_spec (ws := ws_ yJ6_numberOfLeadingZeros_0f7a4 cJ6_numberOfLeadingZeros_0f7a4 2 (Option.some .int)) hBd.pre w (List.mem_cons_of_mem _ h)
  have hown : s.vm.findClass RJ6 = some m.cls := findClass_of_methodNamed hBd.named
  have hlocks := hBd.notSynchronized
  subst hsz
  have hS : va_S (fun _ => False) s.heap s.heap [] := va_S.rf
  have hl := lv_entry ([.int x0]) (n := 2) (Nat.le_of_ble_eq_true rfl)
  rw [lg_entry_eq]
  generalize (lg_sl ([.int x0]) ++ List.replicate (2 - (lg_sl ([.int x0])).length) Slot.unset).toArray = ls at hl ⊢
  have hl : lv_has ls 2 [(0, .int x0)] := hl
  have hP : va_P D vwCl [] s.heap := hP
  have hnb := nb_all x
  refine lv_iload_n hx hb dJ6_numberOfLeadingZeros_0f7a4_0 rfl (lv_at hl 0 rfl) ?_
  refine lz_if_gt (tgt := 15) hx hb hxv (by omega) dJ6_numberOfLeadingZeros_0f7a4_1 (by decide) (fun c_1 => ?_) (fun c_1 => ?_)
  · refine lz_bipush hx hb (by decide) dJ6_numberOfLeadingZeros_0f7a4_15 (fun x_15 v_15 => ?_)
    refine lv_istore_n (lv' := [(1, .int x_15), (0, .int x0)]) hx hb dJ6_numberOfLeadingZeros_0f7a4_17 rfl hl (by decide) rfl (fun ls hl => ?_)
    refine lv_iload_n hx hb dJ6_numberOfLeadingZeros_0f7a4_18 rfl (lv_at hl 1 rfl) ?_
    refine lv_ldcw (v := 65536) hx hb hown (hts _ qw695) dJ6_numberOfLeadingZeros_0f7a4_19 ?_
    refine lv_topi (fun x_19 v_19 => ?_)
    have v_19 : x_19 = iI (65536) := v_19.trans (by decide)
    refine lz_icmp_lt (tgt := 33) hx hb hxv v_19 ⟨by omega, by omega⟩ dJ6_numberOfLeadingZeros_0f7a4_22 (by decide) (fun c_22 => ?_) (fun c_22 => ?_)
    · refine lv_iload_n hx hb dJ6_numberOfLeadingZeros_0f7a4_33 rfl (lv_at hl 1 rfl) ?_
      refine lz_sipush hx hb (by decide) dJ6_numberOfLeadingZeros_0f7a4_34 (fun x_34 v_34 => ?_)
      refine lz_icmp_lt (tgt := 48) hx hb hxv v_34 ⟨by omega, by omega⟩ dJ6_numberOfLeadingZeros_0f7a4_37 (by decide) (fun c_37 => ?_) (fun c_37 => ?_)
      · refine lv_iload_n hx hb dJ6_numberOfLeadingZeros_0f7a4_48 rfl (lv_at hl 1 rfl) ?_
        refine lz_bipush hx hb (by decide) dJ6_numberOfLeadingZeros_0f7a4_49 (fun x_49 v_49 => ?_)
        refine lz_icmp_lt (tgt := 61) hx hb hxv v_49 ⟨by omega, by omega⟩ dJ6_numberOfLeadingZeros_0f7a4_51 (by decide) (fun c_51 => ?_) (fun c_51 => ?_)
        · refine lv_iload_n hx hb dJ6_numberOfLeadingZeros_0f7a4_61 rfl (lv_at hl 1 rfl) ?_
          refine lz_iconst hx hb dJ6_numberOfLeadingZeros_0f7a4_62 (fun x_62 v_62 => ?_)
          refine lz_icmp_lt (tgt := 73) hx hb hxv v_62 ⟨by omega, by omega⟩ dJ6_numberOfLeadingZeros_0f7a4_63 (by decide) (fun c_63 => ?_) (fun c_63 => ?_)
          · refine lv_iload_n hx hb dJ6_numberOfLeadingZeros_0f7a4_73 rfl (lv_at hl 0 rfl) ?_
            refine lv_iload_n hx hb dJ6_numberOfLeadingZeros_0f7a4_74 rfl (lv_at hl 1 rfl) ?_
            refine lz_iconst hx hb dJ6_numberOfLeadingZeros_0f7a4_75 (fun x_75 v_75 => ?_)
            refine lv_iushr hx hb dJ6_numberOfLeadingZeros_0f7a4_76 rfl ?_
            refine lv_topi (fun x_76 e_76 => ?_)
            have v_76 : x_76 = iI (↑(x / 2)) := by rw [e_76, hxv, v_75]; exact ushr_I (by omega) _ 1 (by decide)
            refine lz_isub hx hb v_15 v_76 dJ6_numberOfLeadingZeros_0f7a4_77 (fun x_77 v_77 => ?_)
            exact W.iret (v := x_77) hx hb hr (fun t ht hW => ⟨⟨x_77, (), rfl, v_77.trans (congrArg iI (by omega)), trivial⟩, hS.F ht⟩) hS.2.2 dJ6_numberOfLeadingZeros_0f7a4_78
          · refine lz_iinc (lv2 := fun z => [(1, .int z), (0, .int x0)]) hx hb dJ6_numberOfLeadingZeros_0f7a4_66 hl (k := 0) rfl v_15 (by decide) (fun _ => rfl) (fun x_66 ls v_66 hl => ?_)
            refine lv_iload_n hx hb dJ6_numberOfLeadingZeros_0f7a4_69 rfl (lv_at hl 1 rfl) ?_
            refine lz_iconst hx hb dJ6_numberOfLeadingZeros_0f7a4_70 (fun x_70 v_70 => ?_)
            refine lv_iushr hx hb dJ6_numberOfLeadingZeros_0f7a4_71 rfl ?_
            refine lv_topi (fun x_71 e_71 => ?_)
            have v_71 : x_71 = iI (↑(x / 4)) := by rw [e_71, hxv, v_70]; exact ushr_I (by omega) _ 2 (by decide)
            refine lv_istore_n (lv' := [(0, .int x_71), (1, .int x_66)]) hx hb dJ6_numberOfLeadingZeros_0f7a4_72 rfl hl (by decide) rfl (fun ls hl => ?_)
            refine lv_iload_n hx hb dJ6_numberOfLeadingZeros_0f7a4_73 rfl (lv_at hl 1 rfl) ?_
            refine lv_iload_n hx hb dJ6_numberOfLeadingZeros_0f7a4_74 rfl (lv_at hl 0 rfl) ?_
            refine lz_iconst hx hb dJ6_numberOfLeadingZeros_0f7a4_75 (fun x_75 v_75 => ?_)
            refine lv_iushr hx hb dJ6_numberOfLeadingZeros_0f7a4_76 rfl ?_
            refine lv_topi (fun x_76 e_76 => ?_)
            have v_76 : x_76 = iI (↑((x / 4) / 2)) := by rw [e_76, v_71, v_75]; exact ushr_I (by omega) _ 1 (by decide)
            refine lz_isub hx hb v_66 v_76 dJ6_numberOfLeadingZeros_0f7a4_77 (fun x_77 v_77 => ?_)
            exact W.iret (v := x_77) hx hb hr (fun t ht hW => ⟨⟨x_77, (), rfl, v_77.trans (congrArg iI (by omega)), trivial⟩, hS.F ht⟩) hS.2.2 dJ6_numberOfLeadingZeros_0f7a4_78
        · refine lz_iinc (lv2 := fun z => [(1, .int z), (0, .int x0)]) hx hb dJ6_numberOfLeadingZeros_0f7a4_54 hl (k := 0) rfl v_15 (by decide) (fun _ => rfl) (fun x_54 ls v_54 hl => ?_)
          refine lv_iload_n hx hb dJ6_numberOfLeadingZeros_0f7a4_57 rfl (lv_at hl 1 rfl) ?_
          refine lz_iconst hx hb dJ6_numberOfLeadingZeros_0f7a4_58 (fun x_58 v_58 => ?_)
          refine lv_iushr hx hb dJ6_numberOfLeadingZeros_0f7a4_59 rfl ?_
          refine lv_topi (fun x_59 e_59 => ?_)
          have v_59 : x_59 = iI (↑(x / 16)) := by rw [e_59, hxv, v_58]; exact ushr_I (by omega) _ 4 (by decide)
          refine lv_istore_n (lv' := [(0, .int x_59), (1, .int x_54)]) hx hb dJ6_numberOfLeadingZeros_0f7a4_60 rfl hl (by decide) rfl (fun ls hl => ?_)
          refine lv_iload_n hx hb dJ6_numberOfLeadingZeros_0f7a4_61 rfl (lv_at hl 0 rfl) ?_
          refine lz_iconst hx hb dJ6_numberOfLeadingZeros_0f7a4_62 (fun x_62 v_62 => ?_)
          refine lz_icmp_lt (tgt := 73) hx hb v_59 v_62 ⟨by omega, by omega⟩ dJ6_numberOfLeadingZeros_0f7a4_63 (by decide) (fun c_63 => ?_) (fun c_63 => ?_)
          · refine lv_iload_n hx hb dJ6_numberOfLeadingZeros_0f7a4_73 rfl (lv_at hl 1 rfl) ?_
            refine lv_iload_n hx hb dJ6_numberOfLeadingZeros_0f7a4_74 rfl (lv_at hl 0 rfl) ?_
            refine lz_iconst hx hb dJ6_numberOfLeadingZeros_0f7a4_75 (fun x_75 v_75 => ?_)
            refine lv_iushr hx hb dJ6_numberOfLeadingZeros_0f7a4_76 rfl ?_
            refine lv_topi (fun x_76 e_76 => ?_)
            have v_76 : x_76 = iI (↑((x / 16) / 2)) := by rw [e_76, v_59, v_75]; exact ushr_I (by omega) _ 1 (by decide)
            refine lz_isub hx hb v_54 v_76 dJ6_numberOfLeadingZeros_0f7a4_77 (fun x_77 v_77 => ?_)
            exact W.iret (v := x_77) hx hb hr (fun t ht hW => ⟨⟨x_77, (), rfl, v_77.trans (congrArg iI (by omega)), trivial⟩, hS.F ht⟩) hS.2.2 dJ6_numberOfLeadingZeros_0f7a4_78
          · refine lz_iinc (lv2 := fun z => [(1, .int z), (0, .int x_59)]) hx hb dJ6_numberOfLeadingZeros_0f7a4_66 hl (k := 1) rfl v_54 (by decide) (fun _ => rfl) (fun x_66 ls v_66 hl => ?_)
            refine lv_iload_n hx hb dJ6_numberOfLeadingZeros_0f7a4_69 rfl (lv_at hl 1 rfl) ?_
            refine lz_iconst hx hb dJ6_numberOfLeadingZeros_0f7a4_70 (fun x_70 v_70 => ?_)
            refine lv_iushr hx hb dJ6_numberOfLeadingZeros_0f7a4_71 rfl ?_
            refine lv_topi (fun x_71 e_71 => ?_)
            have v_71 : x_71 = iI (↑((x / 16) / 4)) := by rw [e_71, v_59, v_70]; exact ushr_I (by omega) _ 2 (by decide)
            refine lv_istore_n (lv' := [(0, .int x_71), (1, .int x_66)]) hx hb dJ6_numberOfLeadingZeros_0f7a4_72 rfl hl (by decide) rfl (fun ls hl => ?_)
            refine lv_iload_n hx hb dJ6_numberOfLeadingZeros_0f7a4_73 rfl (lv_at hl 1 rfl) ?_
            refine lv_iload_n hx hb dJ6_numberOfLeadingZeros_0f7a4_74 rfl (lv_at hl 0 rfl) ?_
            refine lz_iconst hx hb dJ6_numberOfLeadingZeros_0f7a4_75 (fun x_75 v_75 => ?_)
            refine lv_iushr hx hb dJ6_numberOfLeadingZeros_0f7a4_76 rfl ?_
            refine lv_topi (fun x_76 e_76 => ?_)
            have v_76 : x_76 = iI (↑(((x / 16) / 4) / 2)) := by rw [e_76, v_71, v_75]; exact ushr_I (by omega) _ 1 (by decide)
            refine lz_isub hx hb v_66 v_76 dJ6_numberOfLeadingZeros_0f7a4_77 (fun x_77 v_77 => ?_)
            exact W.iret (v := x_77) hx hb hr (fun t ht hW => ⟨⟨x_77, (), rfl, v_77.trans (congrArg iI (by omega)), trivial⟩, hS.F ht⟩) hS.2.2 dJ6_numberOfLeadingZeros_0f7a4_78
      · refine lz_iinc (lv2 := fun z => [(1, .int z), (0, .int x0)]) hx hb dJ6_numberOfLeadingZeros_0f7a4_40 hl (k := 0) rfl v_15 (by decide) (fun _ => rfl) (fun x_40 ls v_40 hl => ?_)
        refine lv_iload_n hx hb dJ6_numberOfLeadingZeros_0f7a4_43 rfl (lv_at hl 1 rfl) ?_
        refine lz_bipush hx hb (by decide) dJ6_numberOfLeadingZeros_0f7a4_44 (fun x_44 v_44 => ?_)
        refine lv_iushr hx hb dJ6_numberOfLeadingZeros_0f7a4_46 rfl ?_
        refine lv_topi (fun x_46 e_46 => ?_)
        have v_46 : x_46 = iI (↑(x / 256)) := by rw [e_46, hxv, v_44]; exact ushr_I (by omega) _ 8 (by decide)
        refine lv_istore_n (lv' := [(0, .int x_46), (1, .int x_40)]) hx hb dJ6_numberOfLeadingZeros_0f7a4_47 rfl hl (by decide) rfl (fun ls hl => ?_)
        refine lv_iload_n hx hb dJ6_numberOfLeadingZeros_0f7a4_48 rfl (lv_at hl 0 rfl) ?_
        refine lz_bipush hx hb (by decide) dJ6_numberOfLeadingZeros_0f7a4_49 (fun x_49 v_49 => ?_)
        refine lz_icmp_lt (tgt := 61) hx hb v_46 v_49 ⟨by omega, by omega⟩ dJ6_numberOfLeadingZeros_0f7a4_51 (by decide) (fun c_51 => ?_) (fun c_51 => ?_)
        · refine lv_iload_n hx hb dJ6_numberOfLeadingZeros_0f7a4_61 rfl (lv_at hl 0 rfl) ?_
          refine lz_iconst hx hb dJ6_numberOfLeadingZeros_0f7a4_62 (fun x_62 v_62 => ?_)
          refine lz_icmp_lt (tgt := 73) hx hb v_46 v_62 ⟨by omega, by omega⟩ dJ6_numberOfLeadingZeros_0f7a4_63 (by decide) (fun c_63 => ?_) (fun c_63 => ?_)
          · refine lv_iload_n hx hb dJ6_numberOfLeadingZeros_0f7a4_73 rfl (lv_at hl 1 rfl) ?_
            refine lv_iload_n hx hb dJ6_numberOfLeadingZeros_0f7a4_74 rfl (lv_at hl 0 rfl) ?_
            refine lz_iconst hx hb dJ6_numberOfLeadingZeros_0f7a4_75 (fun x_75 v_75 => ?_)
            refine lv_iushr hx hb dJ6_numberOfLeadingZeros_0f7a4_76 rfl ?_
            refine lv_topi (fun x_76 e_76 => ?_)
            have v_76 : x_76 = iI (↑((x / 256) / 2)) := by rw [e_76, v_46, v_75]; exact ushr_I (by omega) _ 1 (by decide)
            refine lz_isub hx hb v_40 v_76 dJ6_numberOfLeadingZeros_0f7a4_77 (fun x_77 v_77 => ?_)
            exact W.iret (v := x_77) hx hb hr (fun t ht hW => ⟨⟨x_77, (), rfl, v_77.trans (congrArg iI (by omega)), trivial⟩, hS.F ht⟩) hS.2.2 dJ6_numberOfLeadingZeros_0f7a4_78
          · refine lz_iinc (lv2 := fun z => [(1, .int z), (0, .int x_46)]) hx hb dJ6_numberOfLeadingZeros_0f7a4_66 hl (k := 1) rfl v_40 (by decide) (fun _ => rfl) (fun x_66 ls v_66 hl => ?_)
            refine lv_iload_n hx hb dJ6_numberOfLeadingZeros_0f7a4_69 rfl (lv_at hl 1 rfl) ?_
            refine lz_iconst hx hb dJ6_numberOfLeadingZeros_0f7a4_70 (fun x_70 v_70 => ?_)
            refine lv_iushr hx hb dJ6_numberOfLeadingZeros_0f7a4_71 rfl ?_
            refine lv_topi (fun x_71 e_71 => ?_)
            have v_71 : x_71 = iI (↑((x / 256) / 4)) := by rw [e_71, v_46, v_70]; exact ushr_I (by omega) _ 2 (by decide)
            refine lv_istore_n (lv' := [(0, .int x_71), (1, .int x_66)]) hx hb dJ6_numberOfLeadingZeros_0f7a4_72 rfl hl (by decide) rfl (fun ls hl => ?_)
            refine lv_iload_n hx hb dJ6_numberOfLeadingZeros_0f7a4_73 rfl (lv_at hl 1 rfl) ?_
            refine lv_iload_n hx hb dJ6_numberOfLeadingZeros_0f7a4_74 rfl (lv_at hl 0 rfl) ?_
            refine lz_iconst hx hb dJ6_numberOfLeadingZeros_0f7a4_75 (fun x_75 v_75 => ?_)
            refine lv_iushr hx hb dJ6_numberOfLeadingZeros_0f7a4_76 rfl ?_
            refine lv_topi (fun x_76 e_76 => ?_)
            have v_76 : x_76 = iI (↑(((x / 256) / 4) / 2)) := by rw [e_76, v_71, v_75]; exact ushr_I (by omega) _ 1 (by decide)
            refine lz_isub hx hb v_66 v_76 dJ6_numberOfLeadingZeros_0f7a4_77 (fun x_77 v_77 => ?_)
            exact W.iret (v := x_77) hx hb hr (fun t ht hW => ⟨⟨x_77, (), rfl, v_77.trans (congrArg iI (by omega)), trivial⟩, hS.F ht⟩) hS.2.2 dJ6_numberOfLeadingZeros_0f7a4_78
        · refine lz_iinc (lv2 := fun z => [(1, .int z), (0, .int x_46)]) hx hb dJ6_numberOfLeadingZeros_0f7a4_54 hl (k := 1) rfl v_40 (by decide) (fun _ => rfl) (fun x_54 ls v_54 hl => ?_)
          refine lv_iload_n hx hb dJ6_numberOfLeadingZeros_0f7a4_57 rfl (lv_at hl 1 rfl) ?_
          refine lz_iconst hx hb dJ6_numberOfLeadingZeros_0f7a4_58 (fun x_58 v_58 => ?_)
          refine lv_iushr hx hb dJ6_numberOfLeadingZeros_0f7a4_59 rfl ?_
          refine lv_topi (fun x_59 e_59 => ?_)
          have v_59 : x_59 = iI (↑((x / 256) / 16)) := by rw [e_59, v_46, v_58]; exact ushr_I (by omega) _ 4 (by decide)
          refine lv_istore_n (lv' := [(0, .int x_59), (1, .int x_54)]) hx hb dJ6_numberOfLeadingZeros_0f7a4_60 rfl hl (by decide) rfl (fun ls hl => ?_)
          refine lv_iload_n hx hb dJ6_numberOfLeadingZeros_0f7a4_61 rfl (lv_at hl 0 rfl) ?_
          refine lz_iconst hx hb dJ6_numberOfLeadingZeros_0f7a4_62 (fun x_62 v_62 => ?_)
          refine lz_icmp_lt (tgt := 73) hx hb v_59 v_62 ⟨by omega, by omega⟩ dJ6_numberOfLeadingZeros_0f7a4_63 (by decide) (fun c_63 => ?_) (fun c_63 => ?_)
          · refine lv_iload_n hx hb dJ6_numberOfLeadingZeros_0f7a4_73 rfl (lv_at hl 1 rfl) ?_
            refine lv_iload_n hx hb dJ6_numberOfLeadingZeros_0f7a4_74 rfl (lv_at hl 0 rfl) ?_
            refine lz_iconst hx hb dJ6_numberOfLeadingZeros_0f7a4_75 (fun x_75 v_75 => ?_)
            refine lv_iushr hx hb dJ6_numberOfLeadingZeros_0f7a4_76 rfl ?_
            refine lv_topi (fun x_76 e_76 => ?_)
            have v_76 : x_76 = iI (↑(((x / 256) / 16) / 2)) := by rw [e_76, v_59, v_75]; exact ushr_I (by omega) _ 1 (by decide)
            refine lz_isub hx hb v_54 v_76 dJ6_numberOfLeadingZeros_0f7a4_77 (fun x_77 v_77 => ?_)
            exact W.iret (v := x_77) hx hb hr (fun t ht hW => ⟨⟨x_77, (), rfl, v_77.trans (congrArg iI (by omega)), trivial⟩, hS.F ht⟩) hS.2.2 dJ6_numberOfLeadingZeros_0f7a4_78
          · refine lz_iinc (lv2 := fun z => [(1, .int z), (0, .int x_59)]) hx hb dJ6_numberOfLeadingZeros_0f7a4_66 hl (k := 1) rfl v_54 (by decide) (fun _ => rfl) (fun x_66 ls v_66 hl => ?_)
            refine lv_iload_n hx hb dJ6_numberOfLeadingZeros_0f7a4_69 rfl (lv_at hl 1 rfl) ?_
            refine lz_iconst hx hb dJ6_numberOfLeadingZeros_0f7a4_70 (fun x_70 v_70 => ?_)
            refine lv_iushr hx hb dJ6_numberOfLeadingZeros_0f7a4_71 rfl ?_
            refine lv_topi (fun x_71 e_71 => ?_)
            have v_71 : x_71 = iI (↑(((x / 256) / 16) / 4)) := by rw [e_71, v_59, v_70]; exact ushr_I (by omega) _ 2 (by decide)
            refine lv_istore_n (lv' := [(0, .int x_71), (1, .int x_66)]) hx hb dJ6_numberOfLeadingZeros_0f7a4_72 rfl hl (by decide) rfl (fun ls hl => ?_)
            refine lv_iload_n hx hb dJ6_numberOfLeadingZeros_0f7a4_73 rfl (lv_at hl 1 rfl) ?_
            refine lv_iload_n hx hb dJ6_numberOfLeadingZeros_0f7a4_74 rfl (lv_at hl 0 rfl) ?_
            refine lz_iconst hx hb dJ6_numberOfLeadingZeros_0f7a4_75 (fun x_75 v_75 => ?_)
            refine lv_iushr hx hb dJ6_numberOfLeadingZeros_0f7a4_76 rfl ?_
            refine lv_topi (fun x_76 e_76 => ?_)
            have v_76 : x_76 = iI (↑((((x / 256) / 16) / 4) / 2)) := by rw [e_76, v_71, v_75]; exact ushr_I (by omega) _ 1 (by decide)
            refine lz_isub hx hb v_66 v_76 dJ6_numberOfLeadingZeros_0f7a4_77 (fun x_77 v_77 => ?_)
            exact W.iret (v := x_77) hx hb hr (fun t ht hW => ⟨⟨x_77, (), rfl, v_77.trans (congrArg iI (by omega)), trivial⟩, hS.F ht⟩) hS.2.2 dJ6_numberOfLeadingZeros_0f7a4_78
    · exfalso; omega
  · refine lv_iload_n hx hb dJ6_numberOfLeadingZeros_0f7a4_4 rfl (lv_at hl 0 rfl) ?_
    refine lz_if_ne (tgt := 13) hx hb hxv (by omega) dJ6_numberOfLeadingZeros_0f7a4_5 (by decide) (fun c_5 => ?_) (fun c_5 => ?_)
    · refine lz_iconst hx hb dJ6_numberOfLeadingZeros_0f7a4_13 (fun x_13 v_13 => ?_)
      exact W.iret (v := x_13) hx hb hr (fun t ht hW => ⟨⟨x_13, (), rfl, v_13.trans (congrArg iI (by omega)), trivial⟩, hS.F ht⟩) hS.2.2 dJ6_numberOfLeadingZeros_0f7a4_14
    · refine lz_bipush hx hb (by decide) dJ6_numberOfLeadingZeros_0f7a4_8 (fun x_8 v_8 => ?_)
      refine lv_goto (tgt := 14) hx hb dJ6_numberOfLeadingZeros_0f7a4_10 (by decide) ?_
      exact W.iret (v := x_8) hx hb hr (fun t ht hW => ⟨⟨x_8, (), rfl, v_8.trans (congrArg iI (by omega)), trivial⟩, hS.F ht⟩) hS.2.2 dJ6_numberOfLeadingZeros_0f7a4_14
set_option maxHeartbeats 4000000 in
set_option maxRecDepth 100000 in
theorem k_X4_bucketAt (l : Launch) (D : va_G) (cI cZ cJ : ClassId) (hz9 : Nat) (s0 : Nat) (h0 : Int32) (x0 : Int32) (sh : Nat) (sa : Nat) (sc : Nat) (sv : Nat) (sr : Nat) (sl : Nat) (sk : Nat) (cg : Int32) (mt : Int32) (qn : Int32) (sw : Nat) (m0 : Nat) (gl : Nat → Int32) (h x : Nat) (lo : Nat) (hhv : h0 = iI ↑h) (hh2 : h < 2) (hlo : gl h = iI ↑lo) (hlo4 : lo < 1024) (hxv : x0 = iI ↑x) (hx4 : x < 1024) : Met l yX4_bucketAt (ws_ yX4_bucketAt cX4_bucketAt 3 (Option.some .int)) ({ frames := 1, cells := 0, slots := 0, locals := 21 }) (va_Pc [.ref s0, .int h0, .int x0] (wPre D cI cZ cJ hz9 [(s0, .inr (4, [.ref sh, .ref sa, .ref sc, .ref sv, .ref sr, .ref sl, .ref sk, .int cg, .int mt, .int qn, .ref sw, .ref m0])), (sl, .inl (cI, 2, .inl gl))])) (va_Qi (fun r (_ : Unit) => (r = iI (↑(bk lo x)))) (fun _ _ => True) (fun _ => False)) 0 0 (fun _ => False) := by
  refine Met.ofW (cc := cX4_bucketAt) (maxL := 3) (ret := (Option.some .int)) (by decide) rfl ?_
  intro p e s m args below meth c s₁ hBd hml hv
  obtain ⟨rfl, hsz, hP, hD, hK, hT, hZ⟩ := hv
  have hx := hBd.exec
  have hb := hBd.bytes
  have hr := hBd.returns
  have hts : ∀ w ∈ lw_G, w.before _ s = true := fun w h => atoms_spec (ws := ws_ yX4_bucketAt cX4_bucketAt 3 (Option.some .int)) hBd.pre w (List.mem_cons_of_mem _ h)
  have hown : s.vm.findClass RX4 = some m.cls := findClass_of_methodNamed hBd.named
  have hlocks := hBd.notSynchronized
  subst hsz
  have hS : va_S (fun _ => False) s.heap s.heap [] := va_S.rf
  have hl := lv_entry ([.ref s0, .int h0, .int x0]) (n := 3) (Nat.le_of_ble_eq_true rfl)
  rw [lg_entry_eq]
  generalize (lg_sl ([.ref s0, .int h0, .int x0]) ++ List.replicate (3 - (lg_sl ([.ref s0, .int h0, .int x0])).length) Slot.unset).toArray = ls at hl ⊢
  have hl : lv_has ls 3 [(0, .ref s0), (1, .int h0), (2, .int x0)] := hl
  have hP : va_P D vwCl [(s0, .inr (4, [.ref sh, .ref sa, .ref sc, .ref sv, .ref sr, .ref sl, .ref sk, .int cg, .int mt, .int qn, .ref sw, .ref m0])), (sl, .inl (cI, 2, .inl gl))] s.heap := hP
  have hb10 := bk_le10 hlo4 hx4
  have hxx := xor_lt hx4 hlo4
  have hxc : nb (x ^^^ lo) = bk lo x := by unfold bk; rw [Nat.xor_comm]
  refine lz_bipush hx hb (by decide) dX4_bucketAt_0 (fun x_0 v_0 => ?_)
  refine lv_iload_n hx hb dX4_bucketAt_2 rfl (lv_at hl 2 rfl) ?_
  refine lv_aload_n hx hb dX4_bucketAt_3 rfl (lv_at hl 0 rfl) ?_
  refine va_get (D := D) (ci := 4) (v := .ref sl) (C := RX4) (T := TX4) (N := 12) hx hb hts iX4 hown hK hP 0 rfl rfl 5 (by decide) (hts _ qw603) (fun _ h9 => h9) rfl dX4_bucketAt_4 ?_
  refine lv_iload_n hx hb dX4_bucketAt_7 rfl (lv_at hl 1 rfl) ?_
  refine lz_iald hx hb hK hP 1 0 rfl rfl hhv (h) (by omega) (by omega) (by decide) dX4_bucketAt_8 (fun x_8 e_8 => ?_)
  have v_8 : x_8 = iI (↑lo) := e_8.trans (hlo)
  refine lv_ixor hx hb dX4_bucketAt_9 ?_
  refine lv_topi (fun x_9 e_9 => ?_)
  have v_9 : x_9 = iI (↑(x ^^^ lo)) := by rw [e_9, hxv, v_8]; exact xor_I hx4 hlo4
  refine cr_i (va_runS (As := [.int x_9]) (rest := [.int x_0]) ⟨hx, hb, hml, hown, hts⟩ (k_J6_numberOfLeadingZeros_0f7a4 l D cI cZ cJ _ x_9 (x ^^^ lo) (v_9.trans (congrArg iI (by omega))) (hxx)) (va_cwS 1 hts (gS qw692 qw693 qw32 qw694) rfl rfl rfl (by decide +kernel) ⟨Nat.le_of_ble_eq_true rfl, Nat.le_of_ble_eq_true rfl⟩) (ps hP hD hK hT hZ hS [] rfl rfl) rfl rfl hl.1 rfl (lv_room (Nat.le_of_ble_eq_true rfl)) dX4_bucketAt_10 ⟨Nat.le_of_ble_eq_true rfl, Nat.le_of_ble_eq_true rfl⟩) hS hP (fun x_10 H locs hw_10 hP hS => ?_)
  have hw_10 : (x_10 = iI (32 - ↑(nb (x ^^^ lo)))) := hw_10
  have v_10 := hw_10
  refine lz_isub hx hb v_0 v_10 dX4_bucketAt_13 (fun x_13 v_13 => ?_)
  exact W.iret (v := x_13) hx hb hr (fun t ht hW => ⟨⟨x_13, (), rfl, v_13.trans (congrArg iI (by rw [hxc]; omega)), trivial⟩, hS.F ht⟩) hS.2.2 dX4_bucketAt_14
set_option maxHeartbeats 4000000 in
set_option maxRecDepth 100000 in
theorem k_X4_bucket (l : Launch) (D : va_G) (cI cZ cJ : ClassId) (hz9 : Nat) (s0 : Nat) (x0 : Int32) (sh : Nat) (sa : Nat) (sc : Nat) (sv : Nat) (sr : Nat) (sl : Nat) (sk : Nat) (cg : Int32) (mt : Int32) (qn : Int32) (sw : Nat) (m0 : Nat) (th : Int32) (el : Int32) (m1 : Nat) (m2 : Nat) (gl : Nat → Int32) (fh : Nat → Int32) (fa : Nat → Int32) (n x : Nat) (Hh : Nat → Nat) (av : Nat → Int) (lo : Nat → Nat) (hem : embIs el fh n Hh) (hat : atIs fa n av) (hlw : lowIs gl lo) (hxv : x0 = iI ↑x) (hxn : x < n) : Met l yX4_bucket (ws_ yX4_bucket cX4_bucket 2 (Option.some .int)) ({ frames := 2, cells := 0, slots := 0, locals := 43 }) (va_Pc [.ref s0, .int x0] (wPre D cI cZ cJ hz9 [(s0, .inr (4, [.ref sh, .ref sa, .ref sc, .ref sv, .ref sr, .ref sl, .ref sk, .int cg, .int mt, .int qn, .ref sw, .ref m0])), (m0, .inr (5, [.int th, .int el, .ref m1, .ref m2])), (sl, .inl (cI, 2, .inl gl)), (sh, .inl (cI, 40, .inl fh)), (sa, .inl (cI, 40, .inl fa))])) (va_Qi (fun r (_ : Unit) => (r = iI (bkB lo (av x) (Hh x)))) (fun _ _ => True) (fun _ => False)) 0 0 (fun _ => False) := by
  refine Met.ofW (cc := cX4_bucket) (maxL := 2) (ret := (Option.some .int)) (by decide) rfl ?_
  intro p e s m args below meth c s₁ hBd hml hv
  obtain ⟨rfl, hsz, hP, hD, hK, hT, hZ⟩ := hv
  have hx := hBd.exec
  have hb := hBd.bytes
  have hr := hBd.returns
  have hts : ∀ w ∈ lw_G, w.before _ s = true := fun w h => atoms_spec (ws := ws_ yX4_bucket cX4_bucket 2 (Option.some .int)) hBd.pre w (List.mem_cons_of_mem _ h)
  have hown : s.vm.findClass RX4 = some m.cls := findClass_of_methodNamed hBd.named
  have hlocks := hBd.notSynchronized
  subst hsz
  have hS : va_S (fun _ => False) s.heap s.heap [] := va_S.rf
  have hl := lv_entry ([.ref s0, .int x0]) (n := 2) (Nat.le_of_ble_eq_true rfl)
  rw [lg_entry_eq]
  generalize (lg_sl ([.ref s0, .int x0]) ++ List.replicate (2 - (lg_sl ([.ref s0, .int x0])).length) Slot.unset).toArray = ls at hl ⊢
  have hl : lv_has ls 2 [(0, .ref s0), (1, .int x0)] := hl
  have hP : va_P D vwCl [(s0, .inr (4, [.ref sh, .ref sa, .ref sc, .ref sv, .ref sr, .ref sl, .ref sk, .int cg, .int mt, .int qn, .ref sw, .ref m0])), (m0, .inr (5, [.int th, .int el, .ref m1, .ref m2])), (sl, .inl (cI, 2, .inl gl)), (sh, .inl (cI, 40, .inl fh)), (sa, .inl (cI, 40, .inl fa))] s.heap := hP
  obtain ⟨hn, hn4, hfh⟩ := id hem
  have hax := hat x hxn
  have hxH := hfh x hxn
  refine lv_aload_n hx hb dX4_bucket_0 rfl (lv_at hl 0 rfl) ?_
  refine va_get (D := D) (ci := 4) (v := .ref sa) (C := RX4) (T := TX4) (N := 12) hx hb hts iX4 hown hK hP 0 rfl rfl 1 (by decide) (hts _ qw596) (fun _ h9 => h9) rfl dX4_bucket_1 ?_
  refine lv_iload_n hx hb dX4_bucket_4 rfl (lv_at hl 1 rfl) ?_
  refine lz_iald hx hb hK hP 4 0 rfl rfl hxv (x) (by omega) (by omega) (by decide) dX4_bucket_5 (fun x_5 e_5 => ?_)
  have v_5 : x_5 = iI (av x) := e_5.trans ((hat _ (by omega)).1)
  refine lz_iconst hx hb dX4_bucket_6 (fun x_6 v_6 => ?_)
  refine lz_icmp_ne (tgt := 14) hx hb v_5 v_6 ⟨by omega, by omega⟩ dX4_bucket_7 (by decide) (fun c_7 => ?_) (fun c_7 => ?_)
  · refine lv_aload_n hx hb dX4_bucket_14 rfl (lv_at hl 0 rfl) ?_
    refine lv_aload_n hx hb dX4_bucket_15 rfl (lv_at hl 0 rfl) ?_
    refine va_get (D := D) (ci := 4) (v := .ref sa) (C := RX4) (T := TX4) (N := 12) hx hb hts iX4 hown hK hP 0 rfl rfl 1 (by decide) (hts _ qw596) (fun _ h9 => h9) rfl dX4_bucket_16 ?_
    refine lv_iload_n hx hb dX4_bucket_19 rfl (lv_at hl 1 rfl) ?_
    refine lz_iald hx hb hK hP 4 0 rfl rfl hxv (x) (by omega) (by omega) (by decide) dX4_bucket_20 (fun x_20 e_20 => ?_)
    have v_20 : x_20 = iI (av x) := e_20.trans ((hat _ (by omega)).1)
    refine lv_aload_n hx hb dX4_bucket_21 rfl (lv_at hl 0 rfl) ?_
    refine va_get (D := D) (ci := 4) (v := .ref sh) (C := RX4) (T := TX4) (N := 12) hx hb hts iX4 hown hK hP 0 rfl rfl 0 (by decide) (hts _ qw594) (fun _ h9 => h9) rfl dX4_bucket_22 ?_
    refine lv_iload_n hx hb dX4_bucket_25 rfl (lv_at hl 1 rfl) ?_
    refine lz_iald hx hb hK hP 3 0 rfl rfl hxv (x) (by omega) (by omega) (by decide) dX4_bucket_26 (fun x_26 e_26 => ?_)
    have v_26 : x_26 = iI (↑(Hh x)) := e_26.trans ((hfh _ (by omega)).1)
    refine cr_i (va_runV (As := [.int x_20, .int x_26]) (rest := []) ⟨hx, hb, hml, hown, hts⟩ (k_X4_bucketAt l D cI cZ cJ _ s0 x_20 x_26 sh sa sc sv sr sl sk cg mt qn sw m0 gl ((av x).toNat) (Hh x) (lo (av x).toNat) (v_20.trans (congrArg iI (by omega))) (by omega) ((low_at hlw hax.2 c_7).1) ((low_at hlw hax.2 c_7).2) (v_26.trans (congrArg iI (by omega))) (hxH.2)) (cwV 2 hts (gV qw688 qw689 qw690 qw24 qw691) rfl rfl rfl (by decide +kernel) ⟨Nat.le_of_ble_eq_true rfl, Nat.le_of_ble_eq_true rfl⟩) (pv (ci := 4) (r := (RX4, TX4, 12)) (q0 := 0) hP hD hK hT hZ hS [0, 2] rfl rfl rfl rfl) rfl rfl hl.1 rfl (lv_room (Nat.le_of_ble_eq_true rfl)) dX4_bucket_27 ⟨Nat.le_of_ble_eq_true rfl, Nat.le_of_ble_eq_true rfl⟩) hS hP (fun x_27 H locs hw_27 hP hS => ?_)
    have hw_27 : (x_27 = iI (↑(bk (lo (av x).toNat) (Hh x)))) := hw_27
    have v_27 := hw_27
    exact W.iret (v := x_27) hx hb hr (fun t ht hW => ⟨⟨x_27, (), rfl, by first | exact v_27.trans (congrArg iI (by unfold bkB; rw [if_neg c_7])) | exact v_10.trans (congrArg iI (by unfold bkB; rw [if_pos c_7])), trivial⟩, hS.F ht⟩) hS.2.2 dX4_bucket_30
  · refine lz_iconst hx hb dX4_bucket_10 (fun x_10 v_10 => ?_)
    refine lv_goto (tgt := 30) hx hb dX4_bucket_11 (by decide) ?_
    exact W.iret (v := x_10) hx hb hr (fun t ht hW => ⟨⟨x_10, (), rfl, by first | exact v_27.trans (congrArg iI (by unfold bkB; rw [if_neg c_7])) | exact v_10.trans (congrArg iI (by unfold bkB; rw [if_pos c_7])), trivial⟩, hS.F ht⟩) hS.2.2 dX4_bucket_30
set_option maxHeartbeats 4000000 in
set_option maxRecDepth 100000 in
theorem k_X4_size (l : Launch) (D : va_G) (cI cZ cJ : ClassId) (hz9 : Nat) (s0 : Nat) (h0 : Int32) (sh : Nat) (sa : Nat) (sc : Nat) (sv : Nat) (sr : Nat) (sl : Nat) (sk : Nat) (cg : Int32) (mt : Int32) (qn : Int32) (sw : Nat) (m0 : Nat) (th : Int32) (el : Int32) (m1 : Nat) (m2 : Nat) (fa : Nat → Int32) (n h : Nat) (av : Nat → Int) (L : List Nat) (hn : el = iI ↑n) (hn4 : n ≤ 40) (hat : atIs fa n av) (hhv : h0 = iI ↑h) (hh2 : h < 2) (hin : inH n av h L) (hnd : L.Nodup) : Met l yX4_size (ws_ yX4_size cX4_size 4 (Option.some .int)) ({ frames := 0, cells := 0, slots := 0, locals := 0 }) (va_Pc [.ref s0, .int h0] (wPre D cI cZ cJ hz9 [(s0, .inr (4, [.ref sh, .ref sa, .ref sc, .ref sv, .ref sr, .ref sl, .ref sk, .int cg, .int mt, .int qn, .ref sw, .ref m0])), (m0, .inr (5, [.int th, .int el, .ref m1, .ref m2])), (sa, .inl (cI, 40, .inl fa))])) (va_Qi (fun r (_ : Unit) => (r = iI (↑L.length))) (fun _ _ => True) (fun _ => False)) 0 0 (fun _ => False) := by
  refine Met.ofW (cc := cX4_size) (maxL := 4) (ret := (Option.some .int)) (by decide) rfl ?_
  intro p e s m args below meth c s₁ hBd hml hv
  obtain ⟨rfl, hsz, hP, hD, hK, hT, hZ⟩ := hv
  have hx := hBd.exec
  have hb := hBd.bytes
  have hr := hBd.returns
  have hts : ∀ w ∈ lw_G, w.before _ s = true := fun w h => atoms_spec (ws := ws_ yX4_size cX4_size 4 (Option.some .int)) hBd.pre w (List.mem_cons_of_mem _ h)
  have hown : s.vm.findClass RX4 = some m.cls := findClass_of_methodNamed hBd.named
  have hlocks := hBd.notSynchronized
  subst hsz
  have hS : va_S (fun _ => False) s.heap s.heap [] := va_S.rf
  have hl := lv_entry ([.ref s0, .int h0]) (n := 4) (Nat.le_of_ble_eq_true rfl)
  rw [lg_entry_eq]
  generalize (lg_sl ([.ref s0, .int h0]) ++ List.replicate (4 - (lg_sl ([.ref s0, .int h0])).length) Slot.unset).toArray = ls at hl ⊢
  have hl : lv_has ls 4 [(0, .ref s0), (1, .int h0)] := hl
  have hP : va_P D vwCl [(s0, .inr (4, [.ref sh, .ref sa, .ref sc, .ref sv, .ref sr, .ref sl, .ref sk, .int cg, .int mt, .int qn, .ref sw, .ref m0])), (m0, .inr (5, [.int th, .int el, .ref m1, .ref m2])), (sa, .inl (cI, 40, .inl fa))] s.heap := hP
  have hll := inH_nodup_len hnd (fun x hx => ((hin x).mp hx).1)
  refine lz_iconst hx hb dX4_size_0 (fun x_0 v_0 => ?_)
  refine lv_istore_n (lv' := [(2, .int x_0), (0, .ref s0), (1, .int h0)]) hx hb dX4_size_1 rfl hl (by decide) rfl (fun ls hl => ?_)
  refine lz_iconst hx hb dX4_size_2 (fun x_2 v_2 => ?_)
  refine lv_istore_n (lv' := [(3, .int x_2), (2, .int x_0), (0, .ref s0), (1, .int h0)]) hx hb dX4_size_3 rfl hl (by decide) rfl (fun ls hl => ?_)
  have key4 : ∀ (fu : Nat) (i : Nat) (ii : Int32) (acc : Int32) (H : Heap) (locs : List Loc) (ls : Array Slot), n + 1 - i < fu → (ii = iI (↑i)) → (i ≤ n) → (acc = iI (↑(fl L i).length)) → va_P D vwCl [(s0, .inr (4, [.ref sh, .ref sa, .ref sc, .ref sv, .ref sr, .ref sl, .ref sk, .int cg, .int mt, .int qn, .ref sw, .ref m0])), (m0, .inr (5, [.int th, .int el, .ref m1, .ref m2])), (sa, .inl (cI, 40, .inl fa))] H → va_S (fun _ => False) s.heap H locs → lv_has ls 4 [(3, .int ii), (2, .int acc), (0, .ref s0), (1, .int h0)] → W p l e (headSpec (ws_ yX4_size cX4_size 4 (Option.some .int)) ({ frames := 0, cells := 0, slots := 0, locals := 0 })).room s m ([.ref s0, .int h0] : List Value).toArray below meth c H locs 0 0 (MQ below (va_Qi (fun r (_ : Unit) => (r = iI (↑L.length))) (fun _ _ => True) (fun _ => False)) ([.ref s0, .int h0] : List Value).toArray s 0 0 (fun _ => False)) (F0 m 4 ls []) := by
    intro fu
    induction fu with
    | zero => intros; omega
    | succ fu ih4 =>
      intro i ii acc H locs ls hfu hi hle ha hP hS hl
      refine lv_iload_n hx hb dX4_size_4 rfl (lv_at hl 0 rfl) ?_
      refine lv_aload_n hx hb dX4_size_5 rfl (lv_at hl 2 rfl) ?_
      refine va_get (D := D) (ci := 4) (v := .ref m0) (C := RX4) (T := TX4) (N := 12) hx hb hts iX4 hown hK hP 0 rfl rfl 11 (by decide) (hts _ qw614) (fun _ h9 => h9) rfl dX4_size_6 ?_
      refine va_getN (D := D) (ci := 5) (v := .int el) (C := RX5) (T := TX5) (N := 4) hx hb hts iX5 hown hK hP 1 rfl rfl 1 (by decide) (va_Nw.use rfl (hT.1 _ nw624)) (fun _ h9 => h9) rfl dX4_size_9 ?_
      refine lz_icmp_ge (tgt := 39) hx hb hi hn ⟨by omega, by omega⟩ dX4_size_12 (by decide) (fun c_12 => ?_) (fun c_12 => ?_)
      · refine lv_iload_n hx hb dX4_size_39 rfl (lv_at hl 1 rfl) ?_
        exact W.iret (v := acc) hx hb hr (fun t ht hW => ⟨⟨acc, (), rfl, ha.trans (congrArg iI (by rw [fl_all (fun x hx => Nat.lt_of_lt_of_le ((hin x).mp hx).1 (show n ≤ i by omega))])), trivial⟩, hS.F ht⟩) hS.2.2 dX4_size_40
      · have hfl := fl_len L i
        refine lv_iload_n hx hb dX4_size_15 rfl (lv_at hl 1 rfl) ?_
        refine lv_aload_n hx hb dX4_size_16 rfl (lv_at hl 2 rfl) ?_
        refine va_get (D := D) (ci := 4) (v := .ref sa) (C := RX4) (T := TX4) (N := 12) hx hb hts iX4 hown hK hP 0 rfl rfl 1 (by decide) (hts _ qw596) (fun _ h9 => h9) rfl dX4_size_17 ?_
        refine lv_iload_n hx hb dX4_size_20 rfl (lv_at hl 0 rfl) ?_
        have hai := hat i (by omega)
        refine lz_iald hx hb hK hP 2 0 rfl rfl hi (i) (by omega) (by omega) (by decide) dX4_size_21 (fun x_21 e_21 => ?_)
        have v_21 : x_21 = iI (av i) := e_21.trans ((hat _ (by omega)).1)
        refine lv_iload_n hx hb dX4_size_22 rfl (lv_at hl 3 rfl) ?_
        refine lz_icmp_ne (tgt := 30) hx hb v_21 hhv ⟨by omega, by omega⟩ dX4_size_23 (by decide) (fun c_23 => ?_) (fun c_23 => ?_)
        · have hiN : i ∉ L := fun q => c_23 ((hin i).mp q).2
          refine lz_iconst hx hb dX4_size_30 (fun x_30 v_30 => ?_)
          refine lz_iadd hx hb ha v_30 dX4_size_31 (fun x_31 v_31 => ?_)
          refine lv_istore_n (lv' := [(2, .int x_31), (3, .int ii), (0, .ref s0), (1, .int h0)]) hx hb dX4_size_32 rfl hl (by decide) rfl (fun ls hl => ?_)
          refine lz_iinc (lv2 := fun z => [(3, .int z), (2, .int x_31), (0, .ref s0), (1, .int h0)]) hx hb dX4_size_33 hl (k := 1) rfl hi (by decide) (fun _ => rfl) (fun x_33 ls v_33 hl => ?_)
          refine lv_goto (tgt := 4) hx hb dX4_size_36 (by decide) ?_
          exact ih4 (i + 1) x_33 x_31 _ _ _ (by omega) (v_33.trans (congrArg iI (by omega))) (by omega) (by first | exact v_31.trans (congrArg iI (by rw [fl_in_len hnd hiL]; omega)) | exact v_31.trans (congrArg iI (by rw [fl_out hiN]; omega))) hP hS (lv_sub hl [0, 1, 2, 3] rfl)
        · have hiL : i ∈ L := (hin i).mpr ⟨by omega, c_23⟩
          refine lz_iconst hx hb dX4_size_26 (fun x_26 v_26 => ?_)
          refine lv_goto (tgt := 31) hx hb dX4_size_27 (by decide) ?_
          refine lz_iadd hx hb ha v_26 dX4_size_31 (fun x_31 v_31 => ?_)
          refine lv_istore_n (lv' := [(2, .int x_31), (3, .int ii), (0, .ref s0), (1, .int h0)]) hx hb dX4_size_32 rfl hl (by decide) rfl (fun ls hl => ?_)
          refine lz_iinc (lv2 := fun z => [(3, .int z), (2, .int x_31), (0, .ref s0), (1, .int h0)]) hx hb dX4_size_33 hl (k := 1) rfl hi (by decide) (fun _ => rfl) (fun x_33 ls v_33 hl => ?_)
          refine lv_goto (tgt := 4) hx hb dX4_size_36 (by decide) ?_
          exact ih4 (i + 1) x_33 x_31 _ _ _ (by omega) (v_33.trans (congrArg iI (by omega))) (by omega) (by first | exact v_31.trans (congrArg iI (by rw [fl_in_len hnd hiL]; omega)) | exact v_31.trans (congrArg iI (by rw [fl_out hiN]; omega))) hP hS (lv_sub hl [0, 1, 2, 3] rfl)
  exact key4 _ 0 x_2 x_0 _ _ _ (Nat.lt_succ_self _) (v_2.trans (congrArg iI (by omega))) (by omega) (by rw [fl_0]; exact v_0) hP hS (lv_sub hl [0, 1, 2, 3] rfl)
set_option maxHeartbeats 4000000 in
set_option maxRecDepth 100000 in
theorem k_X4_least (l : Launch) (D : va_G) (cI cZ cJ : ClassId) (hz9 : Nat) (s0 : Nat) (h0 : Int32) (sh : Nat) (sa : Nat) (sc : Nat) (sv : Nat) (sr : Nat) (sl : Nat) (sk : Nat) (cg : Int32) (mt : Int32) (qn : Int32) (sw : Nat) (m0 : Nat) (th : Int32) (el : Int32) (m1 : Nat) (m2 : Nat) (fa : Nat → Int32) (fh : Nat → Int32) (n h : Nat) (Hh : Nat → Nat) (av : Nat → Int) (L : List Nat) (hem : embIs el fh n Hh) (hat : atIs fa n av) (hhv : h0 = iI ↑h) (hh2 : h < 2) (hin : inH n av h L) : Met l yX4_least (ws_ yX4_least cX4_least 4 (Option.some .int)) ({ frames := 1, cells := 0, slots := 0, locals := 13 }) (va_Pc [.ref s0, .int h0] (wPre D cI cZ cJ hz9 [(s0, .inr (4, [.ref sh, .ref sa, .ref sc, .ref sv, .ref sr, .ref sl, .ref sk, .int cg, .int mt, .int qn, .ref sw, .ref m0])), (m0, .inr (5, [.int th, .int el, .ref m1, .ref m2])), (sa, .inl (cI, 40, .inl fa)), (sh, .inl (cI, 40, .inl fh))])) (va_Qi (fun r (_ : Unit) => (r = iI (↑(minL Hh L)))) (fun _ _ => True) (fun _ => False)) 0 0 (fun _ => False) := by
  refine Met.ofW (cc := cX4_least) (maxL := 4) (ret := (Option.some .int)) (by decide) rfl ?_
  intro p e s m args below meth c s₁ hBd hml hv
  obtain ⟨rfl, hsz, hP, hD, hK, hT, hZ⟩ := hv
  have hx := hBd.exec
  have hb := hBd.bytes
  have hr := hBd.returns
  have hts : ∀ w ∈ lw_G, w.before _ s = true := fun w h => atoms_spec (ws := ws_ yX4_least cX4_least 4 (Option.some .int)) hBd.pre w (List.mem_cons_of_mem _ h)
  have hown : s.vm.findClass RX4 = some m.cls := findClass_of_methodNamed hBd.named
  have hlocks := hBd.notSynchronized
  subst hsz
  have hS : va_S (fun _ => False) s.heap s.heap [] := va_S.rf
  have hl := lv_entry ([.ref s0, .int h0]) (n := 4) (Nat.le_of_ble_eq_true rfl)
  rw [lg_entry_eq]
  generalize (lg_sl ([.ref s0, .int h0]) ++ List.replicate (4 - (lg_sl ([.ref s0, .int h0])).length) Slot.unset).toArray = ls at hl ⊢
  have hl : lv_has ls 4 [(0, .ref s0), (1, .int h0)] := hl
  have hP : va_P D vwCl [(s0, .inr (4, [.ref sh, .ref sa, .ref sc, .ref sv, .ref sr, .ref sl, .ref sk, .int cg, .int mt, .int qn, .ref sw, .ref m0])), (m0, .inr (5, [.int th, .int el, .ref m1, .ref m2])), (sa, .inl (cI, 40, .inl fa)), (sh, .inl (cI, 40, .inl fh))] s.heap := hP
  obtain ⟨hn, hn4, hfh⟩ := id hem
  refine lz_sipush hx hb (by decide) dX4_least_0 (fun x_0 v_0 => ?_)
  refine lv_istore_n (lv' := [(2, .int x_0), (0, .ref s0), (1, .int h0)]) hx hb dX4_least_3 rfl hl (by decide) rfl (fun ls hl => ?_)
  refine lz_iconst hx hb dX4_least_4 (fun x_4 v_4 => ?_)
  refine lv_istore_n (lv' := [(3, .int x_4), (2, .int x_0), (0, .ref s0), (1, .int h0)]) hx hb dX4_least_5 rfl hl (by decide) rfl (fun ls hl => ?_)
  have key6 : ∀ (fu : Nat) (i : Nat) (ii : Int32) (acc : Int32) (H : Heap) (locs : List Loc) (ls : Array Slot), n + 1 - i < fu → (ii = iI (↑i)) → (i ≤ n) → (acc = iI (↑(minL Hh (fl L i)))) → va_P D vwCl [(s0, .inr (4, [.ref sh, .ref sa, .ref sc, .ref sv, .ref sr, .ref sl, .ref sk, .int cg, .int mt, .int qn, .ref sw, .ref m0])), (m0, .inr (5, [.int th, .int el, .ref m1, .ref m2])), (sa, .inl (cI, 40, .inl fa)), (sh, .inl (cI, 40, .inl fh))] H → va_S (fun _ => False) s.heap H locs → lv_has ls 4 [(3, .int ii), (2, .int acc), (0, .ref s0), (1, .int h0)] → W p l e (headSpec (ws_ yX4_least cX4_least 4 (Option.some .int)) ({ frames := 1, cells := 0, slots := 0, locals := 13 })).room s m ([.ref s0, .int h0] : List Value).toArray below meth c H locs 0 0 (MQ below (va_Qi (fun r (_ : Unit) => (r = iI (↑(minL Hh L)))) (fun _ _ => True) (fun _ => False)) ([.ref s0, .int h0] : List Value).toArray s 0 0 (fun _ => False)) (F0 m 6 ls []) := by
    intro fu
    induction fu with
    | zero => intros; omega
    | succ fu ih6 =>
      intro i ii acc H locs ls hfu hi hle ha hP hS hl
      refine lv_iload_n hx hb dX4_least_6 rfl (lv_at hl 0 rfl) ?_
      refine lv_aload_n hx hb dX4_least_7 rfl (lv_at hl 2 rfl) ?_
      refine va_get (D := D) (ci := 4) (v := .ref m0) (C := RX4) (T := TX4) (N := 12) hx hb hts iX4 hown hK hP 0 rfl rfl 11 (by decide) (hts _ qw614) (fun _ h9 => h9) rfl dX4_least_8 ?_
      refine va_getN (D := D) (ci := 5) (v := .int el) (C := RX5) (T := TX5) (N := 4) hx hb hts iX5 hown hK hP 1 rfl rfl 1 (by decide) (va_Nw.use rfl (hT.1 _ nw624)) (fun _ h9 => h9) rfl dX4_least_11 ?_
      refine lz_icmp_ge (tgt := 44) hx hb hi hn ⟨by omega, by omega⟩ dX4_least_14 (by decide) (fun c_14 => ?_) (fun c_14 => ?_)
      · refine lv_iload_n hx hb dX4_least_44 rfl (lv_at hl 1 rfl) ?_
        exact W.iret (v := acc) hx hb hr (fun t ht hW => ⟨⟨acc, (), rfl, ha.trans (congrArg iI (by rw [fl_all (fun x hx => Nat.lt_of_lt_of_le ((hin x).mp hx).1 (show n ≤ i by omega))])), trivial⟩, hS.F ht⟩) hS.2.2 dX4_least_45
      · refine lv_aload_n hx hb dX4_least_17 rfl (lv_at hl 2 rfl) ?_
        refine va_get (D := D) (ci := 4) (v := .ref sa) (C := RX4) (T := TX4) (N := 12) hx hb hts iX4 hown hK hP 0 rfl rfl 1 (by decide) (hts _ qw596) (fun _ h9 => h9) rfl dX4_least_18 ?_
        refine lv_iload_n hx hb dX4_least_21 rfl (lv_at hl 0 rfl) ?_
        refine lz_iald hx hb hK hP 2 0 rfl rfl hi (i) (by omega) (by omega) (by decide) dX4_least_22 (fun x_22 e_22 => ?_)
        have v_22 : x_22 = iI (av i) := e_22.trans ((hat _ (by omega)).1)
        have hai := hat i (by omega)
        have hmt := minL_top Hh (fl L i)
        have hHi := hfh i (by omega)
        refine lv_iload_n hx hb dX4_least_23 rfl (lv_at hl 3 rfl) ?_
        refine lz_icmp_ne (tgt := 38) hx hb v_22 hhv ⟨by omega, by omega⟩ dX4_least_24 (by decide) (fun c_24 => ?_) (fun c_24 => ?_)
        · have hiN : i ∉ L := fun q => c_24 ((hin i).mp q).2
          refine lz_iinc (lv2 := fun z => [(3, .int z), (2, .int acc), (0, .ref s0), (1, .int h0)]) hx hb dX4_least_38 hl (k := 0) rfl hi (by decide) (fun _ => rfl) (fun x_38 ls v_38 hl => ?_)
          refine lv_goto (tgt := 6) hx hb dX4_least_41 (by decide) ?_
          exact ih6 (i + 1) x_38 acc _ _ _ (by omega) (v_38.trans (congrArg iI (by omega))) (by omega) (by first | exact v_34.trans (congrArg iI (by rw [minL_in_fl hiL]; omega)) | exact ha.trans (congrArg iI (by rw [fl_out hiN]))) hP hS (lv_sub hl [0, 1, 2, 3] rfl)
        · have hiL : i ∈ L := (hin i).mpr ⟨by omega, c_24⟩
          refine lv_iload_n hx hb dX4_least_27 rfl (lv_at hl 1 rfl) ?_
          refine lv_aload_n hx hb dX4_least_28 rfl (lv_at hl 2 rfl) ?_
          refine va_get (D := D) (ci := 4) (v := .ref sh) (C := RX4) (T := TX4) (N := 12) hx hb hts iX4 hown hK hP 0 rfl rfl 0 (by decide) (hts _ qw594) (fun _ h9 => h9) rfl dX4_least_29 ?_
          refine lv_iload_n hx hb dX4_least_32 rfl (lv_at hl 0 rfl) ?_
          refine lz_iald hx hb hK hP 3 0 rfl rfl hi (i) (by omega) (by omega) (by decide) dX4_least_33 (fun x_33 e_33 => ?_)
          have v_33 : x_33 = iI (↑(Hh i)) := e_33.trans ((hfh _ (by omega)).1)
          refine lz_min hx hb (by rw [hml]; exact hl.1.symm) hown (hts _ qw729) (hts _ qw449) (hts _ qw33) (hts _ qw450) (Nat.le_of_ble_eq_true rfl) (Nat.le_of_ble_eq_true rfl) (Nat.le_of_ble_eq_true rfl) (Nat.le_of_ble_eq_true rfl) ha v_33 ⟨by omega, by omega⟩ dX4_least_34 (fun x_34 v_34 => ?_)
          refine lv_istore_n (lv' := [(2, .int x_34), (3, .int ii), (0, .ref s0), (1, .int h0)]) hx hb dX4_least_37 rfl hl (by decide) rfl (fun ls hl => ?_)
          refine lz_iinc (lv2 := fun z => [(3, .int z), (2, .int x_34), (0, .ref s0), (1, .int h0)]) hx hb dX4_least_38 hl (k := 1) rfl hi (by decide) (fun _ => rfl) (fun x_38 ls v_38 hl => ?_)
          refine lv_goto (tgt := 6) hx hb dX4_least_41 (by decide) ?_
          exact ih6 (i + 1) x_38 x_34 _ _ _ (by omega) (v_38.trans (congrArg iI (by omega))) (by omega) (by first | exact v_34.trans (congrArg iI (by rw [minL_in_fl hiL]; omega)) | exact ha.trans (congrArg iI (by rw [fl_out hiN]))) hP hS (lv_sub hl [0, 1, 2, 3] rfl)
  exact key6 _ 0 x_4 x_0 _ _ _ (Nat.lt_succ_self _) (v_4.trans (congrArg iI (by omega))) (by omega) (by rw [fl_0]; exact v_0) hP hS (lv_sub hl [0, 1, 2, 3] rfl)
set_option maxHeartbeats 4000000 in
set_option maxRecDepth 100000 in
theorem k_X4_hottest (l : Launch) (D : va_G) (cI cZ cJ : ClassId) (hz9 : Nat) (s0 : Nat) (h0 : Int32) (sh : Nat) (sa : Nat) (sc : Nat) (sv : Nat) (sr : Nat) (sl : Nat) (sk : Nat) (cg : Int32) (mt : Int32) (qn : Int32) (sw : Nat) (m0 : Nat) (th : Int32) (el : Int32) (m1 : Nat) (m2 : Nat) (fa : Nat → Int32) (fh : Nat → Int32) (n h : Nat) (Hh : Nat → Nat) (av : Nat → Int) (L : List Nat) (hem : embIs el fh n Hh) (hat : atIs fa n av) (hhv : h0 = iI ↑h) (hh2 : h < 2) (hin : inH n av h L) : Met l yX4_hottest (ws_ yX4_hottest cX4_hottest 4 (Option.some .int)) ({ frames := 1, cells := 0, slots := 0, locals := 13 }) (va_Pc [.ref s0, .int h0] (wPre D cI cZ cJ hz9 [(s0, .inr (4, [.ref sh, .ref sa, .ref sc, .ref sv, .ref sr, .ref sl, .ref sk, .int cg, .int mt, .int qn, .ref sw, .ref m0])), (m0, .inr (5, [.int th, .int el, .ref m1, .ref m2])), (sa, .inl (cI, 40, .inl fa)), (sh, .inl (cI, 40, .inl fh))])) (va_Qi (fun r (_ : Unit) => (r = iI (maxL Hh L))) (fun _ _ => True) (fun _ => False)) 0 0 (fun _ => False) := by
  refine Met.ofW (cc := cX4_hottest) (maxL := 4) (ret := (Option.some .int)) (by decide) rfl ?_
  intro p e s m args below meth c s₁ hBd hml hv
  obtain ⟨rfl, hsz, hP, hD, hK, hT, hZ⟩ := hv
  have hx := hBd.exec
  have hb := hBd.bytes
  have hr := hBd.returns
  have hts : ∀ w ∈ lw_G, w.before _ s = true := fun w h => atoms_spec (ws := ws_ yX4_hottest cX4_hottest 4 (Option.some .int)) hBd.pre w (List.mem_cons_of_mem _ h)
  have hown : s.vm.findClass RX4 = some m.cls := findClass_of_methodNamed hBd.named
  have hlocks := hBd.notSynchronized
  subst hsz
  have hS : va_S (fun _ => False) s.heap s.heap [] := va_S.rf
  have hl := lv_entry ([.ref s0, .int h0]) (n := 4) (Nat.le_of_ble_eq_true rfl)
  rw [lg_entry_eq]
  generalize (lg_sl ([.ref s0, .int h0]) ++ List.replicate (4 - (lg_sl ([.ref s0, .int h0])).length) Slot.unset).toArray = ls at hl ⊢
  have hl : lv_has ls 4 [(0, .ref s0), (1, .int h0)] := hl
  have hP : va_P D vwCl [(s0, .inr (4, [.ref sh, .ref sa, .ref sc, .ref sv, .ref sr, .ref sl, .ref sk, .int cg, .int mt, .int qn, .ref sw, .ref m0])), (m0, .inr (5, [.int th, .int el, .ref m1, .ref m2])), (sa, .inl (cI, 40, .inl fa)), (sh, .inl (cI, 40, .inl fh))] s.heap := hP
  obtain ⟨hn, hn4, hfh⟩ := id hem
  refine lz_iconst hx hb dX4_hottest_0 (fun x_0 v_0 => ?_)
  refine lv_istore_n (lv' := [(2, .int x_0), (0, .ref s0), (1, .int h0)]) hx hb dX4_hottest_1 rfl hl (by decide) rfl (fun ls hl => ?_)
  refine lz_iconst hx hb dX4_hottest_2 (fun x_2 v_2 => ?_)
  refine lv_istore_n (lv' := [(3, .int x_2), (2, .int x_0), (0, .ref s0), (1, .int h0)]) hx hb dX4_hottest_3 rfl hl (by decide) rfl (fun ls hl => ?_)
  have key4 : ∀ (fu : Nat) (i : Nat) (ii : Int32) (acc : Int32) (H : Heap) (locs : List Loc) (ls : Array Slot), n + 1 - i < fu → (ii = iI (↑i)) → (i ≤ n) → (acc = iI (maxL Hh (fl L i))) → va_P D vwCl [(s0, .inr (4, [.ref sh, .ref sa, .ref sc, .ref sv, .ref sr, .ref sl, .ref sk, .int cg, .int mt, .int qn, .ref sw, .ref m0])), (m0, .inr (5, [.int th, .int el, .ref m1, .ref m2])), (sa, .inl (cI, 40, .inl fa)), (sh, .inl (cI, 40, .inl fh))] H → va_S (fun _ => False) s.heap H locs → lv_has ls 4 [(3, .int ii), (2, .int acc), (0, .ref s0), (1, .int h0)] → W p l e (headSpec (ws_ yX4_hottest cX4_hottest 4 (Option.some .int)) ({ frames := 1, cells := 0, slots := 0, locals := 13 })).room s m ([.ref s0, .int h0] : List Value).toArray below meth c H locs 0 0 (MQ below (va_Qi (fun r (_ : Unit) => (r = iI (maxL Hh L))) (fun _ _ => True) (fun _ => False)) ([.ref s0, .int h0] : List Value).toArray s 0 0 (fun _ => False)) (F0 m 4 ls []) := by
    intro fu
    induction fu with
    | zero => intros; omega
    | succ fu ih4 =>
      intro i ii acc H locs ls hfu hi hle ha hP hS hl
      refine lv_iload_n hx hb dX4_hottest_4 rfl (lv_at hl 0 rfl) ?_
      refine lv_aload_n hx hb dX4_hottest_5 rfl (lv_at hl 2 rfl) ?_
      refine va_get (D := D) (ci := 4) (v := .ref m0) (C := RX4) (T := TX4) (N := 12) hx hb hts iX4 hown hK hP 0 rfl rfl 11 (by decide) (hts _ qw614) (fun _ h9 => h9) rfl dX4_hottest_6 ?_
      refine va_getN (D := D) (ci := 5) (v := .int el) (C := RX5) (T := TX5) (N := 4) hx hb hts iX5 hown hK hP 1 rfl rfl 1 (by decide) (va_Nw.use rfl (hT.1 _ nw624)) (fun _ h9 => h9) rfl dX4_hottest_9 ?_
      refine lz_icmp_ge (tgt := 42) hx hb hi hn ⟨by omega, by omega⟩ dX4_hottest_12 (by decide) (fun c_12 => ?_) (fun c_12 => ?_)
      · refine lv_iload_n hx hb dX4_hottest_42 rfl (lv_at hl 1 rfl) ?_
        exact W.iret (v := acc) hx hb hr (fun t ht hW => ⟨⟨acc, (), rfl, ha.trans (congrArg iI (by rw [fl_all (fun x hx => Nat.lt_of_lt_of_le ((hin x).mp hx).1 (show n ≤ i by omega))])), trivial⟩, hS.F ht⟩) hS.2.2 dX4_hottest_43
      · refine lv_aload_n hx hb dX4_hottest_15 rfl (lv_at hl 2 rfl) ?_
        refine va_get (D := D) (ci := 4) (v := .ref sa) (C := RX4) (T := TX4) (N := 12) hx hb hts iX4 hown hK hP 0 rfl rfl 1 (by decide) (hts _ qw596) (fun _ h9 => h9) rfl dX4_hottest_16 ?_
        refine lv_iload_n hx hb dX4_hottest_19 rfl (lv_at hl 0 rfl) ?_
        refine lz_iald hx hb hK hP 2 0 rfl rfl hi (i) (by omega) (by omega) (by decide) dX4_hottest_20 (fun x_20 e_20 => ?_)
        have v_20 : x_20 = iI (av i) := e_20.trans ((hat _ (by omega)).1)
        have hai := hat i (by omega)
        have hmt := maxL_in (Hh := Hh) (L := fl L i) (fun x hx => (hfh x ((hin x).mp (fl_mem.mp hx).1).1).2)
        have hHi := hfh i (by omega)
        refine lv_iload_n hx hb dX4_hottest_21 rfl (lv_at hl 3 rfl) ?_
        refine lz_icmp_ne (tgt := 36) hx hb v_20 hhv ⟨by omega, by omega⟩ dX4_hottest_22 (by decide) (fun c_22 => ?_) (fun c_22 => ?_)
        · have hiN : i ∉ L := fun q => c_22 ((hin i).mp q).2
          refine lz_iinc (lv2 := fun z => [(3, .int z), (2, .int acc), (0, .ref s0), (1, .int h0)]) hx hb dX4_hottest_36 hl (k := 0) rfl hi (by decide) (fun _ => rfl) (fun x_36 ls v_36 hl => ?_)
          refine lv_goto (tgt := 4) hx hb dX4_hottest_39 (by decide) ?_
          exact ih4 (i + 1) x_36 acc _ _ _ (by omega) (v_36.trans (congrArg iI (by omega))) (by omega) (by first | exact v_32.trans (congrArg iI (by rw [maxL_in_fl hiL])) | exact ha.trans (congrArg iI (by rw [fl_out hiN]))) hP hS (lv_sub hl [0, 1, 2, 3] rfl)
        · have hiL : i ∈ L := (hin i).mpr ⟨by omega, c_22⟩
          refine lv_iload_n hx hb dX4_hottest_25 rfl (lv_at hl 1 rfl) ?_
          refine lv_aload_n hx hb dX4_hottest_26 rfl (lv_at hl 2 rfl) ?_
          refine va_get (D := D) (ci := 4) (v := .ref sh) (C := RX4) (T := TX4) (N := 12) hx hb hts iX4 hown hK hP 0 rfl rfl 0 (by decide) (hts _ qw594) (fun _ h9 => h9) rfl dX4_hottest_27 ?_
          refine lv_iload_n hx hb dX4_hottest_30 rfl (lv_at hl 0 rfl) ?_
          refine lz_iald hx hb hK hP 3 0 rfl rfl hi (i) (by omega) (by omega) (by decide) dX4_hottest_31 (fun x_31 e_31 => ?_)
          have v_31 : x_31 = iI (↑(Hh i)) := e_31.trans ((hfh _ (by omega)).1)
          refine lz_max hx hb (by rw [hml]; exact hl.1.symm) hown (hts _ qw787) (hts _ qw277) (hts _ qw33) (hts _ qw278) (Nat.le_of_ble_eq_true rfl) (Nat.le_of_ble_eq_true rfl) (Nat.le_of_ble_eq_true rfl) (Nat.le_of_ble_eq_true rfl) ha v_31 ⟨by omega, by omega⟩ dX4_hottest_32 (fun x_32 v_32 => ?_)
          refine lv_istore_n (lv' := [(2, .int x_32), (3, .int ii), (0, .ref s0), (1, .int h0)]) hx hb dX4_hottest_35 rfl hl (by decide) rfl (fun ls hl => ?_)
          refine lz_iinc (lv2 := fun z => [(3, .int z), (2, .int x_32), (0, .ref s0), (1, .int h0)]) hx hb dX4_hottest_36 hl (k := 1) rfl hi (by decide) (fun _ => rfl) (fun x_36 ls v_36 hl => ?_)
          refine lv_goto (tgt := 4) hx hb dX4_hottest_39 (by decide) ?_
          exact ih4 (i + 1) x_36 x_32 _ _ _ (by omega) (v_36.trans (congrArg iI (by omega))) (by omega) (by first | exact v_32.trans (congrArg iI (by rw [maxL_in_fl hiL])) | exact ha.trans (congrArg iI (by rw [fl_out hiN]))) hP hS (lv_sub hl [0, 1, 2, 3] rfl)
  exact key4 _ 0 x_2 x_0 _ _ _ (Nat.lt_succ_self _) (v_2.trans (congrArg iI (by omega))) (by omega) (by rw [fl_0]; exact v_0) hP hS (lv_sub hl [0, 1, 2, 3] rfl)
set_option maxHeartbeats 4000000 in
set_option maxRecDepth 100000 in
theorem k_X4_end (l : Launch) (D : va_G) (cI cZ cJ : ClassId) (hz9 : Nat) (s0 : Nat) (h0 : Int32) (q0 : Int32) (sh : Nat) (sa : Nat) (sc : Nat) (sv : Nat) (sr : Nat) (sl : Nat) (sk : Nat) (cg : Int32) (mt : Int32) (qn : Int32) (sw : Nat) (m0 : Nat) (th : Int32) (el : Int32) (m1 : Nat) (m2 : Nat) (gl : Nat → Int32) (fh : Nat → Int32) (fa : Nat → Int32) (n h : Nat) (Hh : Nat → Nat) (av : Nat → Int) (lo : Nat → Nat) (L : List Nat) (q z : Int) (hem : embIs el fh n Hh) (hat : atIs fa n av) (hlw : lowIs gl lo) (hhv : h0 = iI ↑h) (hh2 : h < 2) (hin : inH n av h L) (hqv : q0 = iI q) (hq : q = 0 ∨ q = 1) (hz : ∀ b, isEnd q (ka (lo h) Hh) L b → b = z) : Met l yX4_end (ws_ yX4_end cX4_end 5 (Option.some .int)) ({ frames := 3, cells := 0, slots := 0, locals := 64 }) (va_Pc [.ref s0, .int h0, .int q0] (wPre D cI cZ cJ hz9 [(s0, .inr (4, [.ref sh, .ref sa, .ref sc, .ref sv, .ref sr, .ref sl, .ref sk, .int cg, .int mt, .int qn, .ref sw, .ref m0])), (m0, .inr (5, [.int th, .int el, .ref m1, .ref m2])), (sl, .inl (cI, 2, .inl gl)), (sh, .inl (cI, 40, .inl fh)), (sa, .inl (cI, 40, .inl fa))])) (va_Qi (fun r (_ : Unit) => (r = iI (z))) (fun _ _ => True) (fun _ => False)) 0 0 (fun _ => False) := by
  refine Met.ofW (cc := cX4_end) (maxL := 5) (ret := (Option.some .int)) (by decide) rfl ?_
  intro p e s m args below meth c s₁ hBd hml hv
  obtain ⟨rfl, hsz, hP, hD, hK, hT, hZ⟩ := hv
  have hx := hBd.exec
  have hb := hBd.bytes
  have hr := hBd.returns
  have hts : ∀ w ∈ lw_G, w.before _ s = true := fun w h => atoms_spec (ws := ws_ yX4_end cX4_end 5 (Option.some .int)) hBd.pre w (List.mem_cons_of_mem _ h)
  have hown : s.vm.findClass RX4 = some m.cls := findClass_of_methodNamed hBd.named
  have hlocks := hBd.notSynchronized
  subst hsz
  have hS : va_S (fun _ => False) s.heap s.heap [] := va_S.rf
  have hl := lv_entry ([.ref s0, .int h0, .int q0]) (n := 5) (Nat.le_of_ble_eq_true rfl)
  rw [lg_entry_eq]
  generalize (lg_sl ([.ref s0, .int h0, .int q0]) ++ List.replicate (5 - (lg_sl ([.ref s0, .int h0, .int q0])).length) Slot.unset).toArray = ls at hl ⊢
  have hl : lv_has ls 5 [(0, .ref s0), (1, .int h0), (2, .int q0)] := hl
  have hP : va_P D vwCl [(s0, .inr (4, [.ref sh, .ref sa, .ref sc, .ref sv, .ref sr, .ref sl, .ref sk, .int cg, .int mt, .int qn, .ref sw, .ref m0])), (m0, .inr (5, [.int th, .int el, .ref m1, .ref m2])), (sl, .inl (cI, 2, .inl gl)), (sh, .inl (cI, 40, .inl fh)), (sa, .inl (cI, 40, .inl fa))] s.heap := hP
  obtain ⟨hn, hn4, hfh⟩ := id hem
  have hlh := (hlw h hh2).2
  refine lz_iconst hx hb dX4_end_0 (fun x_0 v_0 => ?_)
  refine lv_istore_n (lv' := [(3, .int x_0), (0, .ref s0), (1, .int h0), (2, .int q0)]) hx hb dX4_end_1 rfl hl (by decide) rfl (fun ls hl => ?_)
  refine lz_iconst hx hb dX4_end_2 (fun x_2 v_2 => ?_)
  refine lv_istore (lv' := [(4, .int x_2), (3, .int x_0), (0, .ref s0), (1, .int h0), (2, .int q0)]) hx hb dX4_end_3 hl (by decide) rfl (fun ls hl => ?_)
  have key5 : ∀ (fu : Nat) (i : Nat) (ii : Int32) (ba : Int32) (be : Int) (H : Heap) (locs : List Loc) (ls : Array Slot), n + 1 - i < fu → (ii = iI (↑i)) → (i ≤ n) → (ba = iI (be)) → (isEnd q (ka (lo h) Hh) (fl L i) be) → va_P D vwCl [(s0, .inr (4, [.ref sh, .ref sa, .ref sc, .ref sv, .ref sr, .ref sl, .ref sk, .int cg, .int mt, .int qn, .ref sw, .ref m0])), (m0, .inr (5, [.int th, .int el, .ref m1, .ref m2])), (sl, .inl (cI, 2, .inl gl)), (sh, .inl (cI, 40, .inl fh)), (sa, .inl (cI, 40, .inl fa))] H → va_S (fun _ => False) s.heap H locs → lv_has ls 5 [(4, .int ii), (3, .int ba), (0, .ref s0), (1, .int h0), (2, .int q0)] → W p l e (headSpec (ws_ yX4_end cX4_end 5 (Option.some .int)) ({ frames := 3, cells := 0, slots := 0, locals := 64 })).room s m ([.ref s0, .int h0, .int q0] : List Value).toArray below meth c H locs 0 0 (MQ below (va_Qi (fun r (_ : Unit) => (r = iI (z))) (fun _ _ => True) (fun _ => False)) ([.ref s0, .int h0, .int q0] : List Value).toArray s 0 0 (fun _ => False)) (F0 m 5 ls []) := by
    intro fu
    induction fu with
    | zero => intros; omega
    | succ fu ih5 =>
      intro i ii ba be H locs ls hfu hi hle hba he hP hS hl
      refine lv_iload hx hb dX4_end_5 (lv_at hl 0 rfl) ?_
      refine lv_aload_n hx hb dX4_end_7 rfl (lv_at hl 2 rfl) ?_
      refine va_get (D := D) (ci := 4) (v := .ref m0) (C := RX4) (T := TX4) (N := 12) hx hb hts iX4 hown hK hP 0 rfl rfl 11 (by decide) (hts _ qw614) (fun _ h9 => h9) rfl dX4_end_8 ?_
      refine va_getN (D := D) (ci := 5) (v := .int el) (C := RX5) (T := TX5) (N := 4) hx hb hts iX5 hown hK hP 1 rfl rfl 1 (by decide) (va_Nw.use rfl (hT.1 _ nw624)) (fun _ h9 => h9) rfl dX4_end_11 ?_
      refine lz_icmp_ge (tgt := 68) hx hb hi hn ⟨by omega, by omega⟩ dX4_end_14 (by decide) (fun c_14 => ?_) (fun c_14 => ?_)
      · have hfl : fl L i = L := fl_all (fun x hx => Nat.lt_of_lt_of_le ((hin x).mp hx).1 (show n ≤ i by omega))
        rw [hfl] at he
        refine lv_iload_n hx hb dX4_end_68 rfl (lv_at hl 1 rfl) ?_
        exact W.iret (v := ba) hx hb hr (fun t ht hW => ⟨⟨ba, (), rfl, hba.trans (congrArg iI (hz _ he)), trivial⟩, hS.F ht⟩) hS.2.2 dX4_end_69
      · refine lv_aload_n hx hb dX4_end_17 rfl (lv_at hl 2 rfl) ?_
        refine va_get (D := D) (ci := 4) (v := .ref sa) (C := RX4) (T := TX4) (N := 12) hx hb hts iX4 hown hK hP 0 rfl rfl 1 (by decide) (hts _ qw596) (fun _ h9 => h9) rfl dX4_end_18 ?_
        refine lv_iload hx hb dX4_end_21 (lv_at hl 0 rfl) ?_
        have hai := hat i (by omega)
        have hHi := hfh i (by omega)
        have hrg := isEnd_rg he (fun x hx => bk_le10 hlh (hfh x ((hin x).mp (fl_mem.mp hx).1).1).2)
        refine lz_iald hx hb hK hP 4 0 rfl rfl hi (i) (by omega) (by omega) (by decide) dX4_end_23 (fun x_23 e_23 => ?_)
        have v_23 : x_23 = iI (av i) := e_23.trans ((hat _ (by omega)).1)
        refine lv_iload_n hx hb dX4_end_24 rfl (lv_at hl 3 rfl) ?_
        refine lz_icmp_eq (tgt := 31) hx hb v_23 hhv ⟨by omega, by omega⟩ dX4_end_25 (by decide) (fun c_25 => ?_) (fun c_25 => ?_)
        · have hiL : i ∈ L := (hin i).mpr ⟨by omega, c_25⟩
          have hk10 : ka (lo h) Hh i ≤ 10 := bk_le10 hlh hHi.2
          refine lv_iload_n hx hb dX4_end_31 rfl (lv_at hl 1 rfl) ?_
          refine lz_iconst hx hb dX4_end_32 (fun x_32 v_32 => ?_)
          refine lz_icmp_eq (tgt := 55) hx hb hba v_32 ⟨by omega, by omega⟩ dX4_end_33 (by decide) (fun c_33 => ?_) (fun c_33 => ?_)
          · refine lv_aload_n hx hb dX4_end_55 rfl (lv_at hl 2 rfl) ?_
            refine lv_iload hx hb dX4_end_56 (lv_at hl 0 rfl) ?_
            refine cr_i (va_runV (As := [.int ii]) (rest := []) ⟨hx, hb, hml, hown, hts⟩ (k_X4_bucket l D cI cZ cJ _ s0 ii sh sa sc sv sr sl sk cg mt qn sw m0 th el m1 m2 gl fh fa n i Hh av lo (hem) (hat) (hlw) (hi.trans (congrArg iI (by omega))) (by omega)) (cwV 1 hts (gV qw704 qw685 qw686 qw24 qw687) rfl rfl rfl (by decide +kernel) ⟨Nat.le_of_ble_eq_true rfl, Nat.le_of_ble_eq_true rfl⟩) (pv (ci := 4) (r := (RX4, TX4, 12)) (q0 := 0) hP hD hK hT hZ hS [0, 1, 2, 3, 4] rfl rfl rfl rfl) rfl rfl hl.1 rfl (lv_room (Nat.le_of_ble_eq_true rfl)) dX4_end_58 ⟨Nat.le_of_ble_eq_true rfl, Nat.le_of_ble_eq_true rfl⟩) hS hP (fun x_58 H locs hw_58 hP hS => ?_)
            have hw_58 : (x_58 = iI (bkB lo (av i) (Hh i))) := hw_58
            have v_58 := hw_58
            have a_58 : x_58 = iI (↑(ka (lo h) Hh i)) := v_58.trans (congrArg iI (bkB_ka c_25))
            refine lv_istore_n (lv' := [(3, .int x_58), (4, .int ii), (0, .ref s0), (1, .int h0), (2, .int q0)]) hx hb dX4_end_61 rfl hl (by decide) rfl (fun ls hl => ?_)
            refine lz_iinc (lv2 := fun z => [(4, .int z), (3, .int x_58), (0, .ref s0), (1, .int h0), (2, .int q0)]) hx hb dX4_end_62 hl (k := 1) rfl hi (by decide) (fun _ => rfl) (fun x_62 ls v_62 hl => ?_)
            refine lv_goto (tgt := 5) hx hb dX4_end_65 (by decide) ?_
            exact ih5 (i + 1) x_62 x_58 _ _ _ _ (by omega) (v_62.trans (congrArg iI (by omega))) (by omega) (by first | exact a_58 | exact hba) (by first | exact isEnd_out he hiN | exact isEnd_keep he hiL (by omega) | exact isEnd_new he hiL hq (by omega)) hP hS (lv_sub hl [0, 1, 2, 3, 4] rfl)
          · refine lv_aload_n hx hb dX4_end_36 rfl (lv_at hl 2 rfl) ?_
            refine lv_iload hx hb dX4_end_37 (lv_at hl 0 rfl) ?_
            refine cr_i (va_runV (As := [.int ii]) (rest := []) ⟨hx, hb, hml, hown, hts⟩ (k_X4_bucket l D cI cZ cJ _ s0 ii sh sa sc sv sr sl sk cg mt qn sw m0 th el m1 m2 gl fh fa n i Hh av lo (hem) (hat) (hlw) (hi.trans (congrArg iI (by omega))) (by omega)) (cwV 1 hts (gV qw704 qw685 qw686 qw24 qw687) rfl rfl rfl (by decide +kernel) ⟨Nat.le_of_ble_eq_true rfl, Nat.le_of_ble_eq_true rfl⟩) (pv (ci := 4) (r := (RX4, TX4, 12)) (q0 := 0) hP hD hK hT hZ hS [0, 1, 2, 3, 4] rfl rfl rfl rfl) rfl rfl hl.1 rfl (lv_room (Nat.le_of_ble_eq_true rfl)) dX4_end_39 ⟨Nat.le_of_ble_eq_true rfl, Nat.le_of_ble_eq_true rfl⟩) hS hP (fun x_39 H locs hw_39 hP hS => ?_)
            have hw_39 : (x_39 = iI (bkB lo (av i) (Hh i))) := hw_39
            have v_39 := hw_39
            have a_39 : x_39 = iI (↑(ka (lo h) Hh i)) := v_39.trans (congrArg iI (bkB_ka c_25))
            refine lv_iload_n hx hb dX4_end_42 rfl (lv_at hl 1 rfl) ?_
            refine lz_icmp_ge (tgt := 50) hx hb a_39 hba ⟨by omega, by omega⟩ dX4_end_43 (by decide) (fun c_43 => ?_) (fun c_43 => ?_)
            · refine lz_iconst hx hb dX4_end_50 (fun x_50 v_50 => ?_)
              refine lv_iload_n hx hb dX4_end_51 rfl (lv_at hl 4 rfl) ?_
              refine lz_icmp_ne (tgt := 62) hx hb v_50 hqv ⟨by omega, by omega⟩ dX4_end_52 (by decide) (fun c_52 => ?_) (fun c_52 => ?_)
              · refine lz_iinc (lv2 := fun z => [(4, .int z), (3, .int ba), (0, .ref s0), (1, .int h0), (2, .int q0)]) hx hb dX4_end_62 hl (k := 0) rfl hi (by decide) (fun _ => rfl) (fun x_62 ls v_62 hl => ?_)
                refine lv_goto (tgt := 5) hx hb dX4_end_65 (by decide) ?_
                exact ih5 (i + 1) x_62 ba _ _ _ _ (by omega) (v_62.trans (congrArg iI (by omega))) (by omega) (by first | exact a_58 | exact hba) (by first | exact isEnd_out he hiN | exact isEnd_keep he hiL (by omega) | exact isEnd_new he hiL hq (by omega)) hP hS (lv_sub hl [0, 1, 2, 3, 4] rfl)
              · refine lv_aload_n hx hb dX4_end_55 rfl (lv_at hl 2 rfl) ?_
                refine lv_iload hx hb dX4_end_56 (lv_at hl 0 rfl) ?_
                refine cr_i (va_runV (As := [.int ii]) (rest := []) ⟨hx, hb, hml, hown, hts⟩ (k_X4_bucket l D cI cZ cJ _ s0 ii sh sa sc sv sr sl sk cg mt qn sw m0 th el m1 m2 gl fh fa n i Hh av lo (hem) (hat) (hlw) (hi.trans (congrArg iI (by omega))) (by omega)) (cwV 1 hts (gV qw704 qw685 qw686 qw24 qw687) rfl rfl rfl (by decide +kernel) ⟨Nat.le_of_ble_eq_true rfl, Nat.le_of_ble_eq_true rfl⟩) (pv (ci := 4) (r := (RX4, TX4, 12)) (q0 := 0) hP hD hK hT hZ hS [0, 1, 2, 3, 4] rfl rfl rfl rfl) rfl rfl hl.1 rfl (lv_room (Nat.le_of_ble_eq_true rfl)) dX4_end_58 ⟨Nat.le_of_ble_eq_true rfl, Nat.le_of_ble_eq_true rfl⟩) hS hP (fun x_58 H locs hw_58 hP hS => ?_)
                have hw_58 : (x_58 = iI (bkB lo (av i) (Hh i))) := hw_58
                have v_58 := hw_58
                have a_58 : x_58 = iI (↑(ka (lo h) Hh i)) := v_58.trans (congrArg iI (bkB_ka c_25))
                refine lv_istore_n (lv' := [(3, .int x_58), (4, .int ii), (0, .ref s0), (1, .int h0), (2, .int q0)]) hx hb dX4_end_61 rfl hl (by decide) rfl (fun ls hl => ?_)
                refine lz_iinc (lv2 := fun z => [(4, .int z), (3, .int x_58), (0, .ref s0), (1, .int h0), (2, .int q0)]) hx hb dX4_end_62 hl (k := 1) rfl hi (by decide) (fun _ => rfl) (fun x_62 ls v_62 hl => ?_)
                refine lv_goto (tgt := 5) hx hb dX4_end_65 (by decide) ?_
                exact ih5 (i + 1) x_62 x_58 _ _ _ _ (by omega) (v_62.trans (congrArg iI (by omega))) (by omega) (by first | exact a_58 | exact hba) (by first | exact isEnd_out he hiN | exact isEnd_keep he hiL (by omega) | exact isEnd_new he hiL hq (by omega)) hP hS (lv_sub hl [0, 1, 2, 3, 4] rfl)
            · refine lz_iconst hx hb dX4_end_46 (fun x_46 v_46 => ?_)
              refine lv_goto (tgt := 51) hx hb dX4_end_47 (by decide) ?_
              refine lv_iload_n hx hb dX4_end_51 rfl (lv_at hl 4 rfl) ?_
              refine lz_icmp_ne (tgt := 62) hx hb v_46 hqv ⟨by omega, by omega⟩ dX4_end_52 (by decide) (fun c_52 => ?_) (fun c_52 => ?_)
              · refine lz_iinc (lv2 := fun z => [(4, .int z), (3, .int ba), (0, .ref s0), (1, .int h0), (2, .int q0)]) hx hb dX4_end_62 hl (k := 0) rfl hi (by decide) (fun _ => rfl) (fun x_62 ls v_62 hl => ?_)
                refine lv_goto (tgt := 5) hx hb dX4_end_65 (by decide) ?_
                exact ih5 (i + 1) x_62 ba _ _ _ _ (by omega) (v_62.trans (congrArg iI (by omega))) (by omega) (by first | exact a_58 | exact hba) (by first | exact isEnd_out he hiN | exact isEnd_keep he hiL (by omega) | exact isEnd_new he hiL hq (by omega)) hP hS (lv_sub hl [0, 1, 2, 3, 4] rfl)
              · refine lv_aload_n hx hb dX4_end_55 rfl (lv_at hl 2 rfl) ?_
                refine lv_iload hx hb dX4_end_56 (lv_at hl 0 rfl) ?_
                refine cr_i (va_runV (As := [.int ii]) (rest := []) ⟨hx, hb, hml, hown, hts⟩ (k_X4_bucket l D cI cZ cJ _ s0 ii sh sa sc sv sr sl sk cg mt qn sw m0 th el m1 m2 gl fh fa n i Hh av lo (hem) (hat) (hlw) (hi.trans (congrArg iI (by omega))) (by omega)) (cwV 1 hts (gV qw704 qw685 qw686 qw24 qw687) rfl rfl rfl (by decide +kernel) ⟨Nat.le_of_ble_eq_true rfl, Nat.le_of_ble_eq_true rfl⟩) (pv (ci := 4) (r := (RX4, TX4, 12)) (q0 := 0) hP hD hK hT hZ hS [0, 1, 2, 3, 4] rfl rfl rfl rfl) rfl rfl hl.1 rfl (lv_room (Nat.le_of_ble_eq_true rfl)) dX4_end_58 ⟨Nat.le_of_ble_eq_true rfl, Nat.le_of_ble_eq_true rfl⟩) hS hP (fun x_58 H locs hw_58 hP hS => ?_)
                have hw_58 : (x_58 = iI (bkB lo (av i) (Hh i))) := hw_58
                have v_58 := hw_58
                have a_58 : x_58 = iI (↑(ka (lo h) Hh i)) := v_58.trans (congrArg iI (bkB_ka c_25))
                refine lv_istore_n (lv' := [(3, .int x_58), (4, .int ii), (0, .ref s0), (1, .int h0), (2, .int q0)]) hx hb dX4_end_61 rfl hl (by decide) rfl (fun ls hl => ?_)
                refine lz_iinc (lv2 := fun z => [(4, .int z), (3, .int x_58), (0, .ref s0), (1, .int h0), (2, .int q0)]) hx hb dX4_end_62 hl (k := 1) rfl hi (by decide) (fun _ => rfl) (fun x_62 ls v_62 hl => ?_)
                refine lv_goto (tgt := 5) hx hb dX4_end_65 (by decide) ?_
                exact ih5 (i + 1) x_62 x_58 _ _ _ _ (by omega) (v_62.trans (congrArg iI (by omega))) (by omega) (by first | exact a_58 | exact hba) (by first | exact isEnd_out he hiN | exact isEnd_keep he hiL (by omega) | exact isEnd_new he hiL hq (by omega)) hP hS (lv_sub hl [0, 1, 2, 3, 4] rfl)
        · have hiN : i ∉ L := fun q => c_25 ((hin i).mp q).2
          refine lv_goto (tgt := 62) hx hb dX4_end_28 (by decide) ?_
          refine lz_iinc (lv2 := fun z => [(4, .int z), (3, .int ba), (0, .ref s0), (1, .int h0), (2, .int q0)]) hx hb dX4_end_62 hl (k := 0) rfl hi (by decide) (fun _ => rfl) (fun x_62 ls v_62 hl => ?_)
          refine lv_goto (tgt := 5) hx hb dX4_end_65 (by decide) ?_
          exact ih5 (i + 1) x_62 ba _ _ _ _ (by omega) (v_62.trans (congrArg iI (by omega))) (by omega) (by first | exact a_58 | exact hba) (by first | exact isEnd_out he hiN | exact isEnd_keep he hiL (by omega) | exact isEnd_new he hiL hq (by omega)) hP hS (lv_sub hl [0, 1, 2, 3, 4] rfl)
  exact key5 _ 0 x_2 x_0 (-1) _ _ _ (Nat.lt_succ_self _) (v_2.trans (congrArg iI (by omega))) (by omega) (v_0.trans (congrArg iI (by omega))) (isEnd_0 q _ L) hP hS (lv_sub hl [0, 1, 2, 3, 4] rfl)
