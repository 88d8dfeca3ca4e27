/** Promises 17 to 20: image, restore, count, digest; and that refused calls change nothing. */
public final class WholeTest {
    private static final Due due = new Due("WholeTest");

    public static void main(String[] args) {
        imageAndRestore();
        latestImage();
        imageAndRing();
        count();
        digest();
        digestTold();
        refusedChangesNothing();
        due.end();
    }

    private static void imageAndRestore() {
        RingOfThirds x = Texts.ring("cswd;15");
        x.pass(1);
        x.claim(0);
        x.look(1, 2, 0);
        Texts.type(x, "pp");
        due.is("image()", x.image(), 1);
        long digest = x.digest();
        x.pass(0);
        x.pass(3);
        x.claim(0);
        x.claim(1);
        x.forget();
        x.look(2, 0, 1);
        x.look(2, 0, 0);
        due.is("restore()", x.restore(), 1);
        due.is("digest() behind restore()", x.digest(), digest);
        due.is("claim(0), PAID in the IMAGE", x.claim(0), 0);
        due.is("rows(1, 1) by the IMAGE's LOOK", x.rows(1, 1), 1);
        x.pass(2);
        due.is("restore() again", x.restore(), 1);
        due.is("digest() behind restore() again", x.digest(), digest);
        x.blank();
        Texts.type(x, "qqq");
        x.restore();
        due.is("THE PAGE is not in the IMAGE", x.count(8), 3);
    }

    private static void latestImage() {
        RingOfThirds x = Texts.ring("cc;00");
        due.is("image() at first", x.image(), 0);
        x.pass(1);
        x.pass(0);
        due.is("image() then", x.image(), 2);
        x.pass(1);
        due.is("restore() to the latest", x.restore(), 2);
        due.is("count(2)", x.count(2), 2);
        x.claim(1);
        due.is("claim(1) PAID once", x.count(6), 1);
        x.restore();
        due.is("restore() of who was not PAID", x.claim(1), 1);
    }

    private static void imageAndRing() {
        RingOfThirds x = new RingOfThirds();
        due.is("image() without a RING", x.image(), RingOfThirds.STATE);
        due.is("restore() without a RING", x.restore(), RingOfThirds.STATE);
        Texts.type(x, "cc;00");
        x.ring();
        due.is("restore() where none was kept", x.restore(), RingOfThirds.STATE);
        x.image();
        Texts.type(x, "cc;0");
        x.ring();
        due.is("restore() behind what is no RING", x.restore(), 0);
        x.letter('0');
        x.ring();
        due.is("restore() behind the same text", x.restore(), RingOfThirds.STATE);
        due.is("image() of that", x.image(), 0);
        due.is("restore() of that", x.restore(), 0);
        due.is("count(9) is not in the IMAGE", x.count(9), 2);
    }

    private static void count() {
        RingOfThirds x = Texts.ring("cswd;15");
        x.pass(1);
        x.pass(2);
        x.pass(3);
        x.claim(0);
        x.claim(1);
        x.look(0, 0, 0);
        Texts.type(x, "pcs");
        int[] counts = {4, 3, 2, 7, 3, 3, 2, 1, 3, 1};
        for (int what = 0; what < counts.length; what++) {
            due.is("count(" + what + ")", x.count(what), counts[what]);
        }
        due.is("count(10)", x.count(10), RingOfThirds.OUTSIDE);
        due.is("count(-1)", x.count(-1), RingOfThirds.OUTSIDE);
    }

    /** The sum as the document tells it, by what the other calls answer. */
    private static long digestOf(RingOfThirds x, String page) {
        long h = 887;
        int people = x.count(0);
        for (int person = 0; person < people; person++) {
            for (int what = 0; what <= 6; what++) h = 31 * h + x.about(person, what);
        }
        if (people > 0) {
            int marks = 8 * x.count(2) + x.count(3);
            for (int person = 0; person < people; person++) h = 31 * h + x.chain(person, marks, 0);
            for (int what : new int[] {0, 10, 11}) h = 31 * h + x.calm(2, what);
            for (int passes = 0; passes <= 4; passes++) {
                h = 31 * h + x.rows(passes, 0);
                h = 31 * h + x.rows(passes, 1);
            }
            h = 31 * h + x.lookNext(3);
        }
        for (int i = 0; i < page.length(); i++) h = 31 * h + page.charAt(i);
        for (int what = 0; what <= 9; what++) h = 31 * h + x.count(what);
        return h;
    }

    private static void digest() {
        RingOfThirds x = new RingOfThirds();
        due.is("digest() of a new object", x.digest(), digestOf(x, ""));
        Texts.type(x, "p;~");
        due.is("digest() of a PAGE", x.digest(), digestOf(x, "p;~"));
        RingOfThirds y = Texts.ring("dswc;25");
        due.is("digest() of a RING", y.digest(), digestOf(y, ""));
        y.pass(2);
        y.claim(0);
        y.pass(3);
        y.look(2, 0, 3);
        Texts.type(y, "pd;3");
        due.is("digest() then", y.digest(), digestOf(y, "pd;3"));
        due.is("digest() twice", y.digest(), y.digest());
    }

    /** Told by hand for a new object: 887, then 0, -1 and eight times 0. */
    private static void digestTold() {
        long h = 887L * 31 * 31 - 1;
        for (int i = 0; i < 8; i++) h *= 31;
        due.is("digest() told", new RingOfThirds().digest(), h);
    }

    private static void refusedChangesNothing() {
        RingOfThirds x = Texts.ring("dswc;25");
        x.pass(2);
        x.image();
        x.claim(0);
        for (int i = 0; i < 8; i++) x.look(i, 2, i % 4);
        Texts.type(x, "pd;3xxxxxx");
        long before = x.digest();
        int[] answers = {x.letter('p'), x.letter(0), x.ring(), x.about(4, 0), x.about(0, 7), x.as(4, 0), x.as(0, 5),
            x.pass(4), x.pass(2), x.claim(4), x.chain(4, 0, 0), x.chain(0, 32, 0), x.calm(0, 0), x.calm(1, 1),
            x.look(0, 0, 0), x.look(9, 0, 0), x.rows(9, 0), x.rows(0, 2), x.lookNext(9), x.seasons(0, 0, 0),
            x.seasons(1, -1, 0), x.count(10)};
        for (int i = 0; i < answers.length; i++) due.holds("refusal " + i, answers[i] <= RingOfThirds.UNKNOWN);
        due.is("digest() behind refusals", x.digest(), before);
        due.is("restore() behind refusals", x.restore(), 1);
        due.is("count(6) as in the IMAGE", x.count(6), 0);
    }
}
