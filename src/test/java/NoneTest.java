/** Each NONE that the document tells, and of like ones the least or the first. */
public final class NoneTest {
    private static final Due due = new Due("NoneTest");
    private static final int NONE = RingOfThirds.NONE;

    public static void main(String[] args) {
        neverPassedOn();
        hasIt();
        noneSuch();
        noPassIsNeeded();
        noChain();
        noChainBehindAnotherRing();
        noSuchTurn();
        noRows();
        nobodyHasIt();
        chainByTheLeast();
        chainByTheOnlyShortest();
        calmFirstOfLikeOnes();
        calmFewestWrong();
        lookNextLeastOfLikeOnes();
        lookNextOfOneSort();
        due.end();
    }

    private static void neverPassedOn() {
        RingOfThirds x = Texts.ring("pcp;00");
        for (int person = 0; person < 3; person++) due.of("pcp;00", x, NONE, "about", person, 2);
        x.pass(1);
        due.of("behind pass(1)", x, 0, "about", 0, 2);
        due.of("has it, never passed it on", x, NONE, "about", 1, 2);
        due.of("never had it", x, NONE, "about", 2, 2);
        x.pass(0);
        due.of("has it again, and remembers", x, 0, "about", 0, 2);
        due.of("behind pass(0)", x, 8, "about", 1, 2);
    }

    private static void hasIt() {
        RingOfThirds x = Texts.ring("pcs;00");
        for (int holder : new int[] {0, 1, 2, 1, 0}) {
            if (holder != x.count(1)) x.pass(holder);
            for (int person = 0; person < 3; person++) {
                String where = "pcs;00, had by " + holder;
                due.holds(where + ": about(" + person + ", 5)", (x.about(person, 5) == NONE) == (person == holder));
                due.holds(where + ": about(" + person + ", 6)", (x.about(person, 6) == NONE) == (person == holder));
            }
        }
    }

    private static void noneSuch() {
        String kinds = "pcswd";
        boolean[][] such = {{true, false, false, false, false}, {true, true, false, false, false},
            {true, false, true, false, false}, {true, false, false, true, false}, {true, true, false, false, true}};
        for (int kind = 0; kind < 5; kind++) {
            String text = "pp" + kinds.charAt(kind) + ";00";
            for (int asked = 0; asked < 5; asked++) {
                due.of(text, Texts.ring(text), such[kind][asked] ? 2 : NONE, "as", 2, asked);
            }
        }
    }

    private static void noPassIsNeeded() {
        RingOfThirds x = Texts.ring("cs;25");
        due.of("cs;25", x, 0, "chain", 0, 21, 0);
        due.of("cs;25", x, NONE, "chain", 0, 21, 1);
        x.pass(1);
        due.of("cs;25 behind pass(1)", x, 0, "chain", 1, 17, 0);
        due.of("cs;25 behind pass(1)", x, NONE, "chain", 1, 17, 1);
    }

    private static void noChain() {
        RingOfThirds x = Texts.ring("pp;00");
        for (int marks = 1; marks <= 31; marks++) {
            for (int person = 0; person < 2; person++) {
                due.of("pp;00", x, NONE, "chain", person, marks, 0);
                due.of("pp;00", x, NONE, "chain", person, marks, 1);
            }
        }
        RingOfThirds y = Texts.ring("pw;05");
        due.of("pw;05", y, NONE, "chain", 1, 5, 0);
        due.of("pw;05", y, NONE, "chain", 1, 5, 1);
        y.pass(1);
        due.of("pw;05 behind pass(1)", y, NONE, "chain", 0, 5, 0);
        for (int marks = 0; marks < 32; marks += 8) {
            int person = marks / 8 % 2;
            due.of("cc;00", Texts.ring("cc;00"), NONE, "chain", 1 - person, marks, 0);
            due.of("cc;00", Texts.ring("cc;00"), marks == 0 ? 0 : marks / 8, "chain", person, marks, 0);
        }
    }

    /** What chain() found of the RING that is gone is not taken for what can be of this one. */
    private static void noChainBehindAnotherRing() {
        RingOfThirds x = Texts.ring("dscp;25");
        for (int person = 0; person < 4; person++) {
            for (int marks = 0; marks <= 31; marks++) x.chain(person, marks, 0);
        }
        Texts.type(x, "pp;00");
        x.ring();
        for (int marks = 0; marks <= 31; marks++) {
            due.of("pp;00 behind dscp;25", x, marks == 0 ? 0 : NONE, "chain", 0, marks, 0);
            due.of("pp;00 behind dscp;25", x, marks == 0 ? 1 : NONE, "chain", 1, marks, 1);
        }
    }

    private static void noSuchTurn() {
        RingOfThirds x = Texts.ring("ppp;00");
        int[] firstOfLikeOnes = {1, 0, 1, 0};
        for (int passes = 1; passes <= 4; passes++) {
            for (int turn = 0; turn < 4; turn++) {
                due.of("ppp;00", x, turn < passes ? firstOfLikeOnes[turn] : NONE, "calm", passes, 10 + turn);
            }
        }
    }

    private static void noRows() {
        RingOfThirds x = Texts.ring("ppp;00");
        x.look(3, 0, 1);
        for (int passes = 0; passes <= 8; passes++) {
            due.of("no STONE 1 behind 3", x, passes < 3 ? 1 << passes : 0, "rows", passes, 0);
            due.of("no STONE 1 behind 3", x, passes == 0 ? 0 : passes < 3 ? 2 : NONE, "lookNext", passes);
        }
        x.look(0, 2, 1);
        due.of("not had by 1 now", x, 0, "rows", 0, 0);
        due.of("not had by 1 now", x, 0, "rows", 0, 1);
        due.of("not had by 1 now", x, NONE, "lookNext", 0);
    }

    private static void nobodyHasIt() {
        due.of("no RING", new RingOfThirds(), NONE, "count", 1);
        due.of("no RING", Texts.page("pp;00"), NONE, "count", 1);
        due.of("pp;00", Texts.ring("pp;00"), 0, "count", 1);
    }

    private static void chainByTheLeast() {
        RingOfThirds x = Texts.ring("ppcc;00");
        due.of("2, 3, 1 as 3, 2, 1", x, 3, "chain", 1, 16, 0);
        due.of("2, 3, 1 as 3, 2, 1", x, 2, "chain", 1, 16, 1);
        due.of("2, 0 as 3, 0", x, 2, "chain", 0, 8, 1);
        x.pass(3);
        due.of("0, 3 as 1, 3", x, 2, "chain", 3, 16, 0);
        due.of("0, 3 as 1, 3", x, 0, "chain", 3, 16, 1);
        due.of("0 at once", x, 0, "chain", 0, 8, 1);
    }

    /** The least number is no first one where only a greater one is on the shortest way. */
    private static void chainByTheOnlyShortest() {
        RingOfThirds x = Texts.ring("ppcc;00");
        due.of("3 then 2", x, 2, "chain", 2, 16, 0);
        due.of("3 then 2", x, 3, "chain", 2, 16, 1);
        due.of("2 then 3", x, 2, "chain", 3, 16, 1);
        due.of("3 at once", x, 3, "chain", 3, 8, 1);
    }

    private static void calmFirstOfLikeOnes() {
        calmIs("ppp;00", new int[] {0, 0, 0, 0}, "1", "10", "101", "1010");
        calmIs("pppp;00", new int[] {0, 0, 0, 0}, "1", "10", "101", "1010");
        RingOfThirds x = Texts.ring("ppp;00");
        x.pass(2);
        due.of("ppp;00 had by 2", x, 0, "calm", 3, 10);
        due.of("ppp;00 had by 2", x, 1, "calm", 3, 11);
        due.of("ppp;00 had by 2", x, 0, "calm", 3, 12);
    }

    /** A row by greater numbers goes ahead, if fewer are WRONG behind it. */
    private static void calmFewestWrong() {
        calmIs("pcp;00", new int[] {0, 0, 0, 0}, "2", "10", "102", "1010");
        calmIs("pc;00", new int[] {1, 0, 1, 0}, "1", "10", "101", "1010");
        calmIs("cc;00", new int[] {1, 1, 1, 1}, "1", "10", "101", "1010");
        calmIs("ccp;25", new int[] {0, 1, 0}, "2", "10", "202");
        calmIs("psw;00", new int[] {0, 0, 0}, "2", "10", "202");
    }

    private static void calmIs(String text, int[] wrong, String... rows) {
        RingOfThirds x = Texts.ring(text);
        for (int passes = 1; passes <= rows.length; passes++) {
            due.of(text, x, wrong[passes - 1], "calm", passes, 0);
            for (int turn = 0; turn < passes; turn++) {
                due.of(text, x, rows[passes - 1].charAt(turn) - '0', "calm", passes, 10 + turn);
            }
        }
    }

    private static void lookNextLeastOfLikeOnes() {
        due.of("all alike", Texts.ring("pp;00"), 0, "lookNext", 0);
        due.of("all alike", Texts.ring("pp;00"), 0, "lookNext", 5);
        RingOfThirds x = Texts.ring("ppd;00");
        x.look(2, 2, 0);
        due.of("STONE as WORD", x, 0, "lookNext", 2);
        due.of("STONE as who has it", Texts.ring("ppc;00"), 0, "lookNext", 1);
        due.of("WORD as who has it", Texts.ring("pps;00"), 1, "lookNext", 1);
        due.of("WORD as who has it", Texts.ring("psw;00"), 1, "lookNext", 2);
    }

    private static void lookNextOfOneSort() {
        RingOfThirds x = Texts.ring("ppc;00");
        x.look(2, 2, 0);
        due.of("STONE", x, 0, "lookNext", 2);
        RingOfThirds y = Texts.ring("psd;00");
        y.look(3, 2, 1);
        due.of("WORD", y, 1, "lookNext", 3);
        due.of("who has it", Texts.ring("ppp;00"), 2, "lookNext", 1);
        due.of("who has it", Texts.ring("pppp;00"), 2, "lookNext", 8);
    }
}
