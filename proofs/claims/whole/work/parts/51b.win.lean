theorem cT_0_69 {v : Int32} (h : inR v 0 69) (w : ab_W) : sX9_within v 0 69 w = some (1, w) := c_in_T (lo := 0) (hi := 69) w (by decide) (by decide) h
theorem cF_0_69 {v : Int32} (h : ¬ inR v 0 69) (w : ab_W) : sX9_within v 0 69 w = some (0, w) := c_in_F (lo := 0) (hi := 69) w (by decide) (by decide) h
theorem mT_0_69 {v : Int32} (h : inR v 0 69) (w : ab_W) : sX10_in v 0 69 w = some (1, w) := m_in_T (lo := 0) (hi := 69) w (by decide) (by decide) h
theorem mF_0_69 {v : Int32} (h : ¬ inR v 0 69) (w : ab_W) : sX10_in v 0 69 w = some (0, w) := m_in_F (lo := 0) (hi := 69) w (by decide) (by decide) h
theorem cT_0_9999 {v : Int32} (h : inR v 0 9999) (w : ab_W) : sX9_within v 0 9999 w = some (1, w) := c_in_T (lo := 0) (hi := 9999) w (by decide) (by decide) h
theorem cF_0_9999 {v : Int32} (h : ¬ inR v 0 9999) (w : ab_W) : sX9_within v 0 9999 w = some (0, w) := c_in_F (lo := 0) (hi := 9999) w (by decide) (by decide) h
theorem mT_0_9999 {v : Int32} (h : inR v 0 9999) (w : ab_W) : sX10_in v 0 9999 w = some (1, w) := m_in_T (lo := 0) (hi := 9999) w (by decide) (by decide) h
theorem mF_0_9999 {v : Int32} (h : ¬ inR v 0 9999) (w : ab_W) : sX10_in v 0 9999 w = some (0, w) := m_in_F (lo := 0) (hi := 9999) w (by decide) (by decide) h
theorem cT_0_9 {v : Int32} (h : inR v 0 9) (w : ab_W) : sX9_within v 0 9 w = some (1, w) := c_in_T (lo := 0) (hi := 9) w (by decide) (by decide) h
theorem cF_0_9 {v : Int32} (h : ¬ inR v 0 9) (w : ab_W) : sX9_within v 0 9 w = some (0, w) := c_in_F (lo := 0) (hi := 9) w (by decide) (by decide) h
theorem mT_0_9 {v : Int32} (h : inR v 0 9) (w : ab_W) : sX10_in v 0 9 w = some (1, w) := m_in_T (lo := 0) (hi := 9) w (by decide) (by decide) h
theorem mF_0_9 {v : Int32} (h : ¬ inR v 0 9) (w : ab_W) : sX10_in v 0 9 w = some (0, w) := m_in_F (lo := 0) (hi := 9) w (by decide) (by decide) h
theorem cT_0_2 {v : Int32} (h : inR v 0 2) (w : ab_W) : sX9_within v 0 2 w = some (1, w) := c_in_T (lo := 0) (hi := 2) w (by decide) (by decide) h
theorem cF_0_2 {v : Int32} (h : ¬ inR v 0 2) (w : ab_W) : sX9_within v 0 2 w = some (0, w) := c_in_F (lo := 0) (hi := 2) w (by decide) (by decide) h
theorem mT_0_2 {v : Int32} (h : inR v 0 2) (w : ab_W) : sX10_in v 0 2 w = some (1, w) := m_in_T (lo := 0) (hi := 2) w (by decide) (by decide) h
theorem mF_0_2 {v : Int32} (h : ¬ inR v 0 2) (w : ab_W) : sX10_in v 0 2 w = some (0, w) := m_in_F (lo := 0) (hi := 2) w (by decide) (by decide) h
theorem cT_0_1 {v : Int32} (h : inR v 0 1) (w : ab_W) : sX9_within v 0 1 w = some (1, w) := c_in_T (lo := 0) (hi := 1) w (by decide) (by decide) h
theorem cF_0_1 {v : Int32} (h : ¬ inR v 0 1) (w : ab_W) : sX9_within v 0 1 w = some (0, w) := c_in_F (lo := 0) (hi := 1) w (by decide) (by decide) h
theorem mT_0_1 {v : Int32} (h : inR v 0 1) (w : ab_W) : sX10_in v 0 1 w = some (1, w) := m_in_T (lo := 0) (hi := 1) w (by decide) (by decide) h
theorem mF_0_1 {v : Int32} (h : ¬ inR v 0 1) (w : ab_W) : sX10_in v 0 1 w = some (0, w) := m_in_F (lo := 0) (hi := 1) w (by decide) (by decide) h
theorem cT_0_999 {v : Int32} (h : inR v 0 999) (w : ab_W) : sX9_within v 0 999 w = some (1, w) := c_in_T (lo := 0) (hi := 999) w (by decide) (by decide) h
theorem cF_0_999 {v : Int32} (h : ¬ inR v 0 999) (w : ab_W) : sX9_within v 0 999 w = some (0, w) := c_in_F (lo := 0) (hi := 999) w (by decide) (by decide) h
theorem mT_0_999 {v : Int32} (h : inR v 0 999) (w : ab_W) : sX10_in v 0 999 w = some (1, w) := m_in_T (lo := 0) (hi := 999) w (by decide) (by decide) h
theorem mF_0_999 {v : Int32} (h : ¬ inR v 0 999) (w : ab_W) : sX10_in v 0 999 w = some (0, w) := m_in_F (lo := 0) (hi := 999) w (by decide) (by decide) h
theorem cT_0_6 {v : Int32} (h : inR v 0 6) (w : ab_W) : sX9_within v 0 6 w = some (1, w) := c_in_T (lo := 0) (hi := 6) w (by decide) (by decide) h
theorem cF_0_6 {v : Int32} (h : ¬ inR v 0 6) (w : ab_W) : sX9_within v 0 6 w = some (0, w) := c_in_F (lo := 0) (hi := 6) w (by decide) (by decide) h
theorem mT_0_6 {v : Int32} (h : inR v 0 6) (w : ab_W) : sX10_in v 0 6 w = some (1, w) := m_in_T (lo := 0) (hi := 6) w (by decide) (by decide) h
theorem mF_0_6 {v : Int32} (h : ¬ inR v 0 6) (w : ab_W) : sX10_in v 0 6 w = some (0, w) := m_in_F (lo := 0) (hi := 6) w (by decide) (by decide) h
theorem cT_1_8 {v : Int32} (h : inR v 1 8) (w : ab_W) : sX9_within v 1 8 w = some (1, w) := c_in_T (lo := 1) (hi := 8) w (by decide) (by decide) h
theorem cF_1_8 {v : Int32} (h : ¬ inR v 1 8) (w : ab_W) : sX9_within v 1 8 w = some (0, w) := c_in_F (lo := 1) (hi := 8) w (by decide) (by decide) h
theorem mT_1_8 {v : Int32} (h : inR v 1 8) (w : ab_W) : sX10_in v 1 8 w = some (1, w) := m_in_T (lo := 1) (hi := 8) w (by decide) (by decide) h
theorem mF_1_8 {v : Int32} (h : ¬ inR v 1 8) (w : ab_W) : sX10_in v 1 8 w = some (0, w) := m_in_F (lo := 1) (hi := 8) w (by decide) (by decide) h
theorem cT_1_60 {v : Int32} (h : inR v 1 60) (w : ab_W) : sX9_within v 1 60 w = some (1, w) := c_in_T (lo := 1) (hi := 60) w (by decide) (by decide) h
theorem cF_1_60 {v : Int32} (h : ¬ inR v 1 60) (w : ab_W) : sX9_within v 1 60 w = some (0, w) := c_in_F (lo := 1) (hi := 60) w (by decide) (by decide) h
theorem mT_1_60 {v : Int32} (h : inR v 1 60) (w : ab_W) : sX10_in v 1 60 w = some (1, w) := m_in_T (lo := 1) (hi := 60) w (by decide) (by decide) h
theorem mF_1_60 {v : Int32} (h : ¬ inR v 1 60) (w : ab_W) : sX10_in v 1 60 w = some (0, w) := m_in_F (lo := 1) (hi := 60) w (by decide) (by decide) h
theorem cT_1_40 {v : Int32} (h : inR v 1 40) (w : ab_W) : sX9_within v 1 40 w = some (1, w) := c_in_T (lo := 1) (hi := 40) w (by decide) (by decide) h
theorem cF_1_40 {v : Int32} (h : ¬ inR v 1 40) (w : ab_W) : sX9_within v 1 40 w = some (0, w) := c_in_F (lo := 1) (hi := 40) w (by decide) (by decide) h
theorem mT_1_40 {v : Int32} (h : inR v 1 40) (w : ab_W) : sX10_in v 1 40 w = some (1, w) := m_in_T (lo := 1) (hi := 40) w (by decide) (by decide) h
theorem mF_1_40 {v : Int32} (h : ¬ inR v 1 40) (w : ab_W) : sX10_in v 1 40 w = some (0, w) := m_in_F (lo := 1) (hi := 40) w (by decide) (by decide) h
theorem cT_0_127 {v : Int32} (h : inR v 0 127) (w : ab_W) : sX9_within v 0 127 w = some (1, w) := c_in_T (lo := 0) (hi := 127) w (by decide) (by decide) h
theorem cF_0_127 {v : Int32} (h : ¬ inR v 0 127) (w : ab_W) : sX9_within v 0 127 w = some (0, w) := c_in_F (lo := 0) (hi := 127) w (by decide) (by decide) h
theorem mT_0_127 {v : Int32} (h : inR v 0 127) (w : ab_W) : sX10_in v 0 127 w = some (1, w) := m_in_T (lo := 0) (hi := 127) w (by decide) (by decide) h
theorem mF_0_127 {v : Int32} (h : ¬ inR v 0 127) (w : ab_W) : sX10_in v 0 127 w = some (0, w) := m_in_F (lo := 0) (hi := 127) w (by decide) (by decide) h
theorem cT_0_60 {v : Int32} (h : inR v 0 60) (w : ab_W) : sX9_within v 0 60 w = some (1, w) := c_in_T (lo := 0) (hi := 60) w (by decide) (by decide) h
theorem cF_0_60 {v : Int32} (h : ¬ inR v 0 60) (w : ab_W) : sX9_within v 0 60 w = some (0, w) := c_in_F (lo := 0) (hi := 60) w (by decide) (by decide) h
theorem mT_0_60 {v : Int32} (h : inR v 0 60) (w : ab_W) : sX10_in v 0 60 w = some (1, w) := m_in_T (lo := 0) (hi := 60) w (by decide) (by decide) h
theorem mF_0_60 {v : Int32} (h : ¬ inR v 0 60) (w : ab_W) : sX10_in v 0 60 w = some (0, w) := m_in_F (lo := 0) (hi := 60) w (by decide) (by decide) h
theorem cT_0_30 {v : Int32} (h : inR v 0 30) (w : ab_W) : sX9_within v 0 30 w = some (1, w) := c_in_T (lo := 0) (hi := 30) w (by decide) (by decide) h
theorem cF_0_30 {v : Int32} (h : ¬ inR v 0 30) (w : ab_W) : sX9_within v 0 30 w = some (0, w) := c_in_F (lo := 0) (hi := 30) w (by decide) (by decide) h
theorem mT_0_30 {v : Int32} (h : inR v 0 30) (w : ab_W) : sX10_in v 0 30 w = some (1, w) := m_in_T (lo := 0) (hi := 30) w (by decide) (by decide) h
theorem mF_0_30 {v : Int32} (h : ¬ inR v 0 30) (w : ab_W) : sX10_in v 0 30 w = some (0, w) := m_in_F (lo := 0) (hi := 30) w (by decide) (by decide) h
theorem cT_0_3 {v : Int32} (h : inR v 0 3) (w : ab_W) : sX9_within v 0 3 w = some (1, w) := c_in_T (lo := 0) (hi := 3) w (by decide) (by decide) h
theorem cF_0_3 {v : Int32} (h : ¬ inR v 0 3) (w : ab_W) : sX9_within v 0 3 w = some (0, w) := c_in_F (lo := 0) (hi := 3) w (by decide) (by decide) h
theorem mT_0_3 {v : Int32} (h : inR v 0 3) (w : ab_W) : sX10_in v 0 3 w = some (1, w) := m_in_T (lo := 0) (hi := 3) w (by decide) (by decide) h
theorem mF_0_3 {v : Int32} (h : ¬ inR v 0 3) (w : ab_W) : sX10_in v 0 3 w = some (0, w) := m_in_F (lo := 0) (hi := 3) w (by decide) (by decide) h
theorem cT_1_5 {v : Int32} (h : inR v 1 5) (w : ab_W) : sX9_within v 1 5 w = some (1, w) := c_in_T (lo := 1) (hi := 5) w (by decide) (by decide) h
theorem cF_1_5 {v : Int32} (h : ¬ inR v 1 5) (w : ab_W) : sX9_within v 1 5 w = some (0, w) := c_in_F (lo := 1) (hi := 5) w (by decide) (by decide) h
theorem mT_1_5 {v : Int32} (h : inR v 1 5) (w : ab_W) : sX10_in v 1 5 w = some (1, w) := m_in_T (lo := 1) (hi := 5) w (by decide) (by decide) h
theorem mF_1_5 {v : Int32} (h : ¬ inR v 1 5) (w : ab_W) : sX10_in v 1 5 w = some (0, w) := m_in_F (lo := 1) (hi := 5) w (by decide) (by decide) h
