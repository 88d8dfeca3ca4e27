/** Promises 10 and 11: chain, calm. */
public final class FutureTest {
    private static final Due due = new Due("FutureTest");

    public static void main(String[] args) {
        chain();
        chainByTheLeast();
        calm();
        calmByMemories();
        due.end();
    }

    private static void chain() {
        RingOfThirds x = Texts.ring("pc;00");
        chainIs(x, 0, 0, 0, -1);
        chainIs(x, 1, 8, 1, 1);
        chainIs(x, 0, 8, 2, 1);
        chainIs(x, 1, 16, 3, 1);
        chainIs(x, 1, 0, 7, 1);
        chainIs(x, 1, 1, -1, -1);
        chainIs(x, 0, 31, -1, -1);
        due.is("count(4) behind chain", x.count(4), 0);
        x.pass(1);
        chainIs(x, 1, 8, 0, -1);
        chainIs(x, 0, 8, 1, 0);
        chainIs(x, 0, 0, 7, 0);
    }

    private static void chainByTheLeast() {
        RingOfThirds x = Texts.ring("ppcc;00");
        chainIs(x, 1, 16, 3, 2);
        chainIs(x, 2, 16, 2, 3);
        chainIs(x, 2, 8, 1, 2);
        chainIs(x, 0, 8, 2, 2);
        x.pass(3);
        chainIs(x, 3, 16, 2, 0);
        chainIs(x, 1, 16, 2, 2);
        chainIs(x, 1, 8, 1, 1);
    }

    private static void chainIs(RingOfThirds x, int person, int marks, int passes, int first) {
        due.is("chain(" + person + ", " + marks + ", 0)", x.chain(person, marks, 0), passes);
        due.is("chain(" + person + ", " + marks + ", 1)", x.chain(person, marks, 1), first);
    }

    private static void calm() {
        RingOfThirds x = Texts.ring("pc;00");
        calmIs(x, 1, 1, 1, -1, -1, -1);
        calmIs(x, 2, 0, 1, 0, -1, -1);
        calmIs(x, 3, 1, 1, 0, 1, -1);
        calmIs(x, 4, 0, 1, 0, 1, 0);
        due.is("count(4) behind calm", x.count(4), 0);
        RingOfThirds y = Texts.ring("pcp;00");
        calmIs(y, 1, 0, 2, -1, -1, -1);
        calmIs(y, 2, 0, 1, 0, -1, -1);
        calmIs(y, 3, 0, 1, 0, 2, -1);
    }

    /** WRONG behind the row is who was so before it, too. */
    private static void calmByMemories() {
        RingOfThirds x = Texts.ring("cpp;00");
        x.pass(1);
        calmIs(x, 1, 0, 2, -1, -1, -1);
        x.pass(0);
        calmIs(x, 1, 0, 1, -1, -1, -1);
        calmIs(x, 2, 0, 1, 2, -1, -1);
        RingOfThirds y = Texts.ring("dcw;25");
        y.pass(1);
        y.pass(2);
        calmIs(y, 1, 2, 0, -1, -1, -1);
        calmIs(y, 2, 1, 1, 2, -1, -1);
    }

    private static void calmIs(RingOfThirds x, int passes, int wrong, int... row) {
        due.is("calm(" + passes + ", 0)", x.calm(passes, 0), wrong);
        for (int i = 0; i < row.length; i++) {
            due.is("calm(" + passes + ", " + (10 + i) + ")", x.calm(passes, 10 + i), row[i]);
        }
    }
}
