/-! What every call must keep. -/
def ll_0 (R : sw_St → sw_St → Prop) : Prop := ∀ x m, R x m → ∀ a1 a2 a3 a4 a5 : Int32, ∃ v x2 m2, F_X10_feed x a1 a2 a3 a4 a5 = some (v, x2) ∧ F_X11_feed m a1 a2 a3 a4 a5 = some (v, m2) ∧ R x2 m2
def ll_1 (R : sw_St → sw_St → Prop) : Prop := ∀ x m, R x m → ∀ a1 : Int32, ∃ v x2 m2, F_X10_end x a1 = some (v, x2) ∧ F_X11_end m a1 = some (v, m2) ∧ R x2 m2
def ll_2 (R : sw_St → sw_St → Prop) : Prop := ∀ x m, R x m → ∃ v x2 m2, F_X10_upland x  = some (v, x2) ∧ F_X11_upland m  = some (v, m2) ∧ R x2 m2
def ll_3 (R : sw_St → sw_St → Prop) : Prop := ∀ x m, R x m → ∀ a1 : Int32, ∃ v x2 m2, F_X10_fault x a1 = some (v, x2) ∧ F_X11_fault m a1 = some (v, m2) ∧ R x2 m2
def ll_4 (R : sw_St → sw_St → Prop) : Prop := ∀ x m, R x m → ∀ a1 : Int32, ∃ v x2 m2, F_X10_has x a1 = some (v, x2) ∧ F_X11_has m a1 = some (v, m2) ∧ R x2 m2
def ll_5 (R : sw_St → sw_St → Prop) : Prop := ∀ x m, R x m → ∀ a1 a2 a3 : Int32, ∃ v x2 m2, F_X10_letter x a1 a2 a3 = some (v, x2) ∧ F_X11_letter m a1 a2 a3 = some (v, m2) ∧ R x2 m2
def ll_6 (R : sw_St → sw_St → Prop) : Prop := ∀ x m, R x m → ∀ a1 : Int32, ∃ v x2 m2, F_X10_lure x a1 = some (v, x2) ∧ F_X11_lure m a1 = some (v, m2) ∧ R x2 m2
def ll_7 (R : sw_St → sw_St → Prop) : Prop := ∀ x m, R x m → ∀ a1 a2 : Int32, ∃ v x2 m2, F_X10_gap x a1 a2 = some (v, x2) ∧ F_X11_gap m a1 a2 = some (v, m2) ∧ R x2 m2
def ll_8 (R : sw_St → sw_St → Prop) : Prop := ∀ x m, R x m → ∀ a1 a2 : Int32, ∃ v x2 m2, F_X10_sheep x a1 a2 = some (v, x2) ∧ F_X11_sheep m a1 a2 = some (v, m2) ∧ R x2 m2
def ll_9 (R : sw_St → sw_St → Prop) : Prop := ∀ x m, R x m → ∀ a1 a2 : Int32, ∃ v x2 m2, F_X10_seen x a1 a2 = some (v, x2) ∧ F_X11_seen m a1 a2 = some (v, m2) ∧ R x2 m2
def ll_10 (R : sw_St → sw_St → Prop) : Prop := ∀ x m, R x m → ∀ a1 : Int32, ∃ v x2 m2, F_X10_strays x a1 = some (v, x2) ∧ F_X11_strays m a1 = some (v, m2) ∧ R x2 m2
def ll_11 (R : sw_St → sw_St → Prop) : Prop := ∀ x m, R x m → ∀ a1 : Int32, ∃ v x2 m2, F_X10_brings x a1 = some (v, x2) ∧ F_X11_brings m a1 = some (v, m2) ∧ R x2 m2
def ll_12 (R : sw_St → sw_St → Prop) : Prop := ∀ x m, R x m → ∀ a1 a2 : Int32, ∃ v x2 m2, F_X10_kept x a1 a2 = some (v, x2) ∧ F_X11_kept m a1 a2 = some (v, m2) ∧ R x2 m2
def ll_13 (R : sw_St → sw_St → Prop) : Prop := ∀ x m, R x m → ∀ a1 a2 a3 : Int32, ∃ v x2 m2, F_X10_later x a1 a2 a3 = some (v, x2) ∧ F_X11_later m a1 a2 a3 = some (v, m2) ∧ R x2 m2
def ll_14 (R : sw_St → sw_St → Prop) : Prop := ∀ x m, R x m → ∀ a1 : Int32, ∃ v x2 m2, F_X10_home x a1 = some (v, x2) ∧ F_X11_home m a1 = some (v, m2) ∧ R x2 m2
def ll_15 (R : sw_St → sw_St → Prop) : Prop := ∀ x m, R x m → ∀ a1 a2 a3 : Int32, ∃ v x2 m2, F_X10_gaps x a1 a2 a3 = some (v, x2) ∧ F_X11_gaps m a1 a2 a3 = some (v, m2) ∧ R x2 m2
def ll_16 (R : sw_St → sw_St → Prop) : Prop := ∀ x m, R x m → ∀ a1 a2 : Int32, ∃ v x2 m2, F_X10_rumour x a1 a2 = some (v, x2) ∧ F_X11_rumour m a1 a2 = some (v, m2) ∧ R x2 m2
def ll_17 (R : sw_St → sw_St → Prop) : Prop := ∀ x m, R x m → ∀ a1 a2 : Int32, ∃ v x2 m2, F_X10_way x a1 a2 = some (v, x2) ∧ F_X11_way m a1 a2 = some (v, m2) ∧ R x2 m2
def ll_18 (R : sw_St → sw_St → Prop) : Prop := ∀ x m, R x m → ∀ a1 a2 a3 : Int32, ∃ v x2 m2, F_X10_waits x a1 a2 a3 = some (v, x2) ∧ F_X11_waits m a1 a2 a3 = some (v, m2) ∧ R x2 m2
def ll_19 (R : sw_St → sw_St → Prop) : Prop := ∀ x m, R x m → ∀ a1 : Int32, ∃ v x2 m2, F_X10_coat x a1 = some (v, x2) ∧ F_X11_coat m a1 = some (v, m2) ∧ R x2 m2
def ll_20 (R : sw_St → sw_St → Prop) : Prop := ∀ x m, R x m → ∀ a1 : Int32, ∃ v x2 m2, F_X10_watch x a1 = some (v, x2) ∧ F_X11_watch m a1 = some (v, m2) ∧ R x2 m2
def ll_21 (R : sw_St → sw_St → Prop) : Prop := ∀ x m, R x m → ∀ a1 a2 a3 : Int32, ∃ v x2 m2, F_X10_ways x a1 a2 a3 = some (v, x2) ∧ F_X11_ways m a1 a2 a3 = some (v, m2) ∧ R x2 m2
def ll_22 (R : sw_St → sw_St → Prop) : Prop := ∀ x m, R x m → ∃ v x2 m2, F_X10_feel x  = some (v, x2) ∧ F_X11_feel m  = some (v, m2) ∧ R x2 m2
def ll_23 (R : sw_St → sw_St → Prop) : Prop := ∀ x m, R x m → ∀ a1 : Int32, ∃ v x2 m2, F_X10_curious x a1 = some (v, x2) ∧ F_X11_curious m a1 = some (v, m2) ∧ R x2 m2
def ll_24 (R : sw_St → sw_St → Prop) : Prop := ∀ x m, R x m → ∀ a1 a2 : Int32, ∃ v x2 m2, F_X10_tells x a1 a2 = some (v, x2) ∧ F_X11_tells m a1 a2 = some (v, m2) ∧ R x2 m2
def ll_25 (R : sw_St → sw_St → Prop) : Prop := ∀ x m, R x m → ∀ a1 : Int32, ∃ v x2 m2, F_X10_shear x a1 = some (v, x2) ∧ F_X11_shear m a1 = some (v, m2) ∧ R x2 m2
def ll_26 (R : sw_St → sw_St → Prop) : Prop := ∀ x m, R x m → ∀ a1 a2 : Int32, ∃ v x2 m2, F_X10_lead x a1 a2 = some (v, x2) ∧ F_X11_lead m a1 a2 = some (v, m2) ∧ R x2 m2
def ll_27 (R : sw_St → sw_St → Prop) : Prop := ∀ x m, R x m → ∀ a1 a2 : Int32, ∃ v x2 m2, F_X10_swing x a1 a2 = some (v, x2) ∧ F_X11_swing m a1 a2 = some (v, m2) ∧ R x2 m2
def ll_28 (R : sw_St → sw_St → Prop) : Prop := ∀ x m, R x m → ∀ a1 a2 a3 : Int32, ∃ v x2 m2, F_X10_tell x a1 a2 a3 = some (v, x2) ∧ F_X11_tell m a1 a2 a3 = some (v, m2) ∧ R x2 m2
def ll_29 (R : sw_St → sw_St → Prop) : Prop := ∀ x m, R x m → ∀ a1 : Int32, ∃ v x2 m2, F_X10_days x a1 = some (v, x2) ∧ F_X11_days m a1 = some (v, m2) ∧ R x2 m2
def ll_30 (R : sw_St → sw_St → Prop) : Prop := ∀ x m, R x m → ∀ a1 : Int32, ∃ v x2 m2, F_X10_chance x a1 = some (v, x2) ∧ F_X11_chance m a1 = some (v, m2) ∧ R x2 m2
def ll_31 (R : sw_St → sw_St → Prop) : Prop := ∀ x m, R x m → ∃ v x2 m2, F_X10_undo x  = some (v, x2) ∧ F_X11_undo m  = some (v, m2) ∧ R x2 m2
def ll_32 (R : sw_St → sw_St → Prop) : Prop := ∀ x m, R x m → ∀ a1 : Int32, ∃ v x2 m2, F_X10_seed x a1 = some (v, x2) ∧ F_X11_seed m a1 = some (v, m2) ∧ R x2 m2
def ll_33 (R : sw_St → sw_St → Prop) : Prop := ∀ x m, R x m → ∃ v x2 m2, F_X10_ask x  = some (v, x2) ∧ F_X11_ask m  = some (v, m2) ∧ R x2 m2
def ll_34 (R : sw_St → sw_St → Prop) : Prop := ∀ x m, R x m → ∃ v x2 m2, F_X10_image x  = some (v, x2) ∧ F_X11_image m  = some (v, m2) ∧ R x2 m2
def ll_35 (R : sw_St → sw_St → Prop) : Prop := ∀ x m, R x m → ∀ a1 : Int32, ∃ v x2 m2, F_X10_octet x a1 = some (v, x2) ∧ F_X11_octet m a1 = some (v, m2) ∧ R x2 m2
def ll_36 (R : sw_St → sw_St → Prop) : Prop := ∀ x m, R x m → ∃ v x2 m2, F_X10_on x  = some (v, x2) ∧ F_X11_on m  = some (v, m2) ∧ R x2 m2
def ll_37 (R : sw_St → sw_St → Prop) : Prop := ∀ x m, R x m → ∀ a1 : Int32, ∃ v x2 m2, F_X10_status x a1 = some (v, x2) ∧ F_X11_status m a1 = some (v, m2) ∧ R x2 m2
def ll_all (R : sw_St → sw_St → Prop) : Prop := ll_0 R ∧ ll_1 R ∧ ll_2 R ∧ ll_3 R ∧ ll_4 R ∧ ll_5 R ∧ ll_6 R ∧ ll_7 R ∧ ll_8 R ∧ ll_9 R ∧ ll_10 R ∧ ll_11 R ∧ ll_12 R ∧ ll_13 R ∧ ll_14 R ∧ ll_15 R ∧ ll_16 R ∧ ll_17 R ∧ ll_18 R ∧ ll_19 R ∧ ll_20 R ∧ ll_21 R ∧ ll_22 R ∧ ll_23 R ∧ ll_24 R ∧ ll_25 R ∧ ll_26 R ∧ ll_27 R ∧ ll_28 R ∧ ll_29 R ∧ ll_30 R ∧ ll_31 R ∧ ll_32 R ∧ ll_33 R ∧ ll_34 R ∧ ll_35 R ∧ ll_36 R ∧ ll_37 R
