/** Promises 6 to 9: about, as, pass, claim. */
public final class PeopleTest {
    private static final Due due = new Due("PeopleTest");

    public static void main(String[] args) {
        about();
        as();
        passByKind();
        claim();
        claimByTurns();
        due.end();
    }

    private static void about() {
        RingOfThirds x = Texts.ring("cswd;15");
        aboutIs(x, 0, 1, 1, -1, 0, 0, -1, -1);
        aboutIs(x, 1, 2, 0, -1, 0, 0, 9, 1);
        aboutIs(x, 2, 3, 0, -1, 0, 0, 8, 1);
        aboutIs(x, 3, 4, 0, -1, 0, 0, 18, 1);
        x.pass(1);
        aboutIs(x, 0, 1, 0, 13, 1, 0, 17, 1);
        aboutIs(x, 1, 2, 1, -1, 0, 0, -1, -1);
        aboutIs(x, 2, 3, 0, -1, 0, 0, 8, 2);
        x.claim(0);
        x.pass(2);
        aboutIs(x, 0, 1, 0, 13, 1, 1, 16, 2);
        aboutIs(x, 1, 2, 0, 9, 1, 0, 10, 2);
        aboutIs(x, 2, 3, 1, -1, 0, 0, -1, -1);
        RingOfThirds y = Texts.ring("pp;00");
        due.is("about(1, 6) where MARKS stay", y.about(1, 6), 0);
    }

    private static void aboutIs(RingOfThirds x, int person, int... wants) {
        for (int what = 0; what < wants.length; what++) {
            due.is("about(" + person + ", " + what + ")", x.about(person, what), wants[what]);
        }
    }

    private static void as() {
        RingOfThirds x = Texts.ring("cswd;15");
        int n = RingOfThirds.NONE;
        int[][] wants = {{0, 0, n, n, n}, {1, n, 1, n, n}, {2, n, n, 2, n}, {3, 3, n, n, 3}};
        for (int person = 0; person < 4; person++) {
            for (int kind = 0; kind < 5; kind++) {
                due.is("as(" + person + ", " + kind + ")", x.as(person, kind), wants[person][kind]);
            }
        }
        for (int kind = 0; kind < 5; kind++) {
            due.is("as of a PERSON, " + kind, Texts.ring("cp;00").as(1, kind), kind == 0 ? 1 : n);
        }
        due.is("as(4, 0)", x.as(4, 0), RingOfThirds.UNKNOWN);
        due.is("as(-1, 5)", x.as(-1, 5), RingOfThirds.UNKNOWN);
        due.is("as(0, 5)", x.as(0, 5), RingOfThirds.OUTSIDE);
        due.is("as(0, -1)", x.as(0, -1), RingOfThirds.OUTSIDE);
        due.is("as without a RING", new RingOfThirds().as(0, 0), RingOfThirds.UNKNOWN);
    }

    private static void passByKind() {
        passIs("pp;25", 1, 21);
        passIs("pc;25", 1, 29);
        passIs("pc;37", 1, 7);
        passIs("pw;25", 1, 16);
        passIs("pd;25", 1, 26);
        passIs("pd;32", 1, 5);
        passIs("ps;25", 1, 17);
        passIs("pps;07", 2, 0);
        passIs("ppps;36", 3, 30);
        RingOfThirds x = Texts.ring("sp;12");
        x.pass(1);
        due.is("pass(0) to SCRATCHER 0", x.pass(0), 15);
        due.is("count(4)", x.count(4), 2);
        due.is("count(1)", x.count(1), 0);
    }

    private static void passIs(String text, int person, int want) {
        RingOfThirds x = Texts.ring(text);
        due.is("pass(" + person + ") of " + text, x.pass(person), want);
        due.is("count(1) of " + text, x.count(1), person);
        due.is("count(2) of " + text, x.count(2), want / 8);
        due.is("count(3) of " + text, x.count(3), want % 8);
    }

    private static void claim() {
        RingOfThirds x = Texts.ring("cswd;15");
        due.is("claim(0) by who has it", x.claim(0), 0);
        due.is("claim(1) by who never had it", x.claim(1), 0);
        due.is("claim(4)", x.claim(4), RingOfThirds.UNKNOWN);
        due.is("claim(-1)", x.claim(-1), RingOfThirds.UNKNOWN);
        due.is("claim(0) without a RING", new RingOfThirds().claim(0), RingOfThirds.UNKNOWN);
        x.pass(1);
        due.is("claim(0)", x.claim(0), 1);
        due.is("claim(0) again", x.claim(0), 0);
        x.pass(2);
        due.is("claim(0) behind another's PASS", x.claim(0), 0);
        due.is("claim(1)", x.claim(1), 1);
        x.pass(0);
        due.is("claim(0) as she has it", x.claim(0), 0);
        x.pass(3);
        due.is("claim(0) as she had it again", x.claim(0), 1);
        due.is("about(0, 4)", x.about(0, 4), 2);
        due.is("about(1, 4)", x.about(1, 4), 1);
        due.is("count(6)", x.count(6), 3);
    }

    /** A refused CLAIM does not count as PAID: who becomes WRONG later is PAID then. */
    private static void claimByTurns() {
        RingOfThirds x = Texts.ring("cpc;00");
        x.pass(1);
        due.is("claim(0) with her own MARKS", x.claim(0), 0);
        x.pass(2);
        due.is("claim(0) as MARKS changed", x.claim(0), 1);
        due.is("claim(1)", x.claim(1), 1);
        RingOfThirds y = Texts.ring("pw;03");
        y.pass(1);
        y.pass(0);
        y.pass(1);
        due.is("about(0, 2) tells the last MARKS", y.about(0, 2), 0);
        due.is("claim(0) by the last MARKS", y.claim(0), 0);
    }
}
