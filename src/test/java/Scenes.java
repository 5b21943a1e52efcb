/** Runs that others begin with: so much is there that a change would be seen. */
final class Scenes {
    private static final String SHEETS = " | sheet(0, 2, 24) | film(2, 24, 0, 2, 0) | sheet(1, 0, 5) | film(2, 5, 1, 0, 0)"
        + " | sheet(2, 2, 0)";
    private static final String DEEDS = " | seed(77) | days(2) | image() | hang(3, 1) | polish(0, 2) | drift(1)";

    /**
     * Three men, five medals, the DAY 3, five things to be undone, an image of the DAY 2. Sheet 0 has 24 ints, sheet 1
     * five bytes, sheet 2 no int, sheet 3 holds nothing; the items are those that Whole reads. The tape is empty.
     */
    static final String SOME = "'9-4,20-8,60-50;b9:0@1,r3:1@0,f8:1@0,p4:0,m20:1@1' | state()" + SHEETS + DEEDS;

    /** The same with 33 on the tape. */
    static final String RICH = SOME + " | '33'";

    /** Likewise, with as many men and medals as can be. */
    static final String FULL = "'9-4,20-8,60-50,1,5;b9:0@1,r3:1@0,f8:1@0,p4:0,m20:1@1,b1:4@3' | state()" + SHEETS + DEEDS + " | '33'";

    private Scenes() {
    }
}
