/** Promises 12 to 16: look, forget, rows, lookNext, seasons. */
public final class LooksTest {
    private static final Due due = new Due("LooksTest");

    public static void main(String[] args) {
        look();
        lookValues();
        forget();
        rows();
        rowsByLooks();
        rowsFromWhichever();
        lookNext();
        seasons();
        seasonsFromHistory();
        due.end();
    }

    private static void look() {
        RingOfThirds x = Texts.ring("ppp;00");
        for (int i = 1; i <= 8; i++) due.is("look " + i, x.look(8, 0, 0), i);
        due.is("a ninth look", x.look(0, 0, 0), RingOfThirds.FULL);
        due.is("a ninth look that is none", x.look(9, 0, 0), RingOfThirds.OUTSIDE);
        due.is("count(7)", x.count(7), 8);
    }

    private static void lookValues() {
        RingOfThirds x = Texts.ring("ppp;00");
        due.is("look(0, 0, 3)", x.look(0, 0, 3), 1);
        due.is("look(0, 1, 7)", x.look(0, 1, 7), 2);
        due.is("look(0, 2, 2)", x.look(0, 2, 2), 3);
        due.is("rows(0, 0) by what is not so", x.rows(0, 0), 0);
    }

    private static void forget() {
        RingOfThirds x = Texts.ring("ppp;00");
        due.is("forget() of none", x.forget(), 0);
        x.look(0, 2, 1);
        x.look(1, 2, 1);
        due.is("forget()", x.forget(), 2);
        due.is("count(7)", x.count(7), 0);
        due.is("rows(1, 0)", x.rows(1, 0), 2);
        due.is("forget() without a RING", new RingOfThirds().forget(), 0);
    }

    private static void rows() {
        RingOfThirds x = Texts.ring("ppp;00");
        rowsAre(x, 0, 1, 1);
        rowsAre(x, 1, 2, 6);
        rowsAre(x, 2, 4, 7);
        rowsAre(x, 8, 256, 7);
        rowsAre(Texts.ring("cswd;25"), 8, 6561, 15);
        rowsAre(Texts.ring("cs;25"), 7, 1, 2);
        x.pass(2);
        rowsAre(x, 0, 1, 4);
        rowsAre(x, 1, 2, 3);
    }

    private static void rowsByLooks() {
        RingOfThirds x = Texts.ring("ppp;00");
        x.look(1, 2, 1);
        rowsAre(x, 0, 1, 1);
        rowsAre(x, 1, 1, 2);
        rowsAre(x, 2, 2, 5);
        x.look(3, 2, 1);
        rowsAre(x, 2, 2, 5);
        rowsAre(x, 3, 2, 2);
        RingOfThirds y = Texts.ring("pcs;00");
        y.look(2, 0, 1);
        rowsAre(y, 2, 3, 7);
        y.look(2, 1, 0);
        rowsAre(y, 2, 1, 1);
        y.look(0, 0, 1);
        rowsAre(y, 2, 0, 0);
        rowsAre(y, 0, 0, 0);
    }

    /** A LOOK stays as it was told while PASSES go on. */
    private static void rowsFromWhichever() {
        RingOfThirds x = Texts.ring("ppp;00");
        x.look(1, 2, 1);
        x.pass(1);
        rowsAre(x, 1, 0, 0);
        x.pass(0);
        rowsAre(x, 1, 1, 2);
    }

    private static void rowsAre(RingOfThirds x, int passes, int howMany, int bits) {
        due.is("rows(" + passes + ", 0)", x.rows(passes, 0), howMany);
        due.is("rows(" + passes + ", 1)", x.rows(passes, 1), bits);
    }

    private static void lookNext() {
        due.is("lookNext(0), all alike", Texts.ring("ppp;00").lookNext(0), 0);
        due.is("lookNext(1) by who has it", Texts.ring("ppp;00").lookNext(1), 2);
        due.is("lookNext(1) by STONE", Texts.ring("pcs;00").lookNext(1), 0);
        due.is("lookNext(1) by WORD", Texts.ring("pws;01").lookNext(1), 1);
        due.is("lookNext(8)", Texts.ring("pppp;00").lookNext(8), 2);
        RingOfThirds x = Texts.ring("pcs;00");
        x.look(1, 2, 1);
        due.is("lookNext(1) of one ROW", x.lookNext(1), 0);
        x.look(0, 2, 1);
        due.is("lookNext(0) of no ROWS", x.lookNext(0), RingOfThirds.NONE);
        due.is("lookNext(8) of no ROWS", x.lookNext(8), RingOfThirds.NONE);
    }

    /** Of two, seed 0 draws 0, who has it; seeds 4 and MAX draw 1. */
    private static void seasons() {
        RingOfThirds x = Texts.ring("pc;00");
        seasonsAre(x, 1, 0, 0, 0, 12345);
        seasonsAre(x, 1, 4, 1, 8, 119106029);
        seasonsAre(x, 1, Integer.MAX_VALUE, 1, 8, 1043980748);
        seasonsAre(x, 5, 4, 2, 16, 1009760233);
        int[] counts = {2, 0, 0, 0, 0, 0, 0, 0, 0, 1};
        for (int what = 0; what < counts.length; what++) {
            due.is("count(" + what + ") behind seasons", x.count(what), counts[what]);
        }
        due.is("about(0, 2) behind seasons", x.about(0, 2), RingOfThirds.NONE);
        due.is("seasons(60, 1, 2)", x.seasons(60, 1, 2), seedBehind(1, 60));
    }

    private static int seedBehind(long seed, int times) {
        long then = seed;
        for (int i = 0; i < times; i++) then = (1103515245L * then + 12345L) % (1L << 31);
        return (int) then;
    }

    private static void seasonsAre(RingOfThirds x, int times, int seed, int paid, int marks, int seedThen) {
        String name = "seasons(" + times + ", " + seed + ", ";
        due.is(name + "0)", x.seasons(times, seed, 0), paid);
        due.is(name + "1)", x.seasons(times, seed, 1), marks);
        due.is(name + "2)", x.seasons(times, seed, 2), seedThen);
    }

    /** Who was PAID before is not PAID again by SEASONS, and what was PAID before is not told by them. */
    private static void seasonsFromHistory() {
        RingOfThirds x = Texts.ring("pc;00");
        x.pass(1);
        seasonsAre(x, 1, Integer.MAX_VALUE, 1, 8, 1043980748);
        x.claim(0);
        seasonsAre(x, 1, Integer.MAX_VALUE, 0, 8, 1043980748);
    }
}
