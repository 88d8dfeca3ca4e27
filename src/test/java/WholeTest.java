/** Promises 19 and 20: count, digest. */
public final class WholeTest {
    private static final Due due = new Due("WholeTest");

    public static void main(String[] args) {
        count();
        digest();
        digestTold();
        due.end();
    }

    private static void count() {
        RingOfThirds x = Texts.ring("cswd;15");
        x.pass(1);
        x.pass(2);
        x.pass(3);
        x.claim(0);
        x.claim(1);
        x.look(0, 0, 0);
        Texts.type(x, "pcs");
        int[] counts = {4, 3, 2, 7, 3, 3, 2, 1, 3, 1};
        for (int what = 0; what < counts.length; what++) {
            due.is("count(" + what + ")", x.count(what), counts[what]);
        }
    }

    private static void digest() {
        RingOfThirds x = new RingOfThirds();
        due.is("digest() of a new object", x.digest(), Digests.sumOf(x, ""));
        Texts.type(x, "p;~");
        due.is("digest() of a PAGE", x.digest(), Digests.sumOf(x, "p;~"));
        RingOfThirds y = Texts.ring("dswc;25");
        due.is("digest() of a RING", y.digest(), Digests.sumOf(y, ""));
        y.pass(2);
        y.claim(0);
        y.pass(3);
        y.look(2, 0, 3);
        Texts.type(y, "pd;3");
        due.is("digest() then", y.digest(), Digests.sumOf(y, "pd;3"));
        due.is("digest() twice", y.digest(), y.digest());
        for (String text : new String[] {"ccp;25", "psw;00", "pd;31", "wwww;07"}) {
            RingOfThirds z = Texts.ring(text);
            due.of(text, z, Digests.sumOf(z, ""), "digest");
        }
    }

    /** Told by hand for a new object: 887, then 0, -1 and eight times 0. */
    private static void digestTold() {
        long h = 887L * 31 * 31 - 1;
        for (int i = 0; i < 8; i++) h *= 31;
        due.is("digest() told", new RingOfThirds().digest(), h);
    }
}
