/** Each refused call: its refusal, of several the first, and that it changes nothing; nor does what only tells. */
public final class RefusedTest {
    private static final Due due = new Due("RefusedTest");
    private static final int UNKNOWN = RingOfThirds.UNKNOWN, OUTSIDE = RingOfThirds.OUTSIDE;
    private static final int STATE = RingOfThirds.STATE, FULL = RingOfThirds.FULL;

    /** What an object has gone through; each is made anew, twice, for two objects that are alike. */
    private enum Past { NEW, PAGE_FULL, RING, ALL }

    public static void main(String[] args) {
        letterRefused();
        ringRefused();
        aboutRefused();
        asRefused();
        passRefused();
        claimRefused();
        chainRefused();
        calmRefused();
        lookRefused();
        rowsRefused();
        lookNextRefused();
        seasonsRefused();
        imageRefused();
        countRefused();
        aboutTells();
        asTells();
        chainTells();
        calmTells();
        rowsTells();
        lookNextTells();
        seasonsTells();
        countAndDigestTell();
        faultTells();
        due.end();
    }

    private static RingOfThirds made(Past past) {
        switch (past) {
            case NEW: return new RingOfThirds();
            case PAGE_FULL: return Texts.page("dswc;25xxx");
            case RING: return Texts.ring("dswc;25");
            default: return madeOfAll();
        }
    }

    /** A PAGE, LOOKS that are full, WRONG ones who were PAID and who were not, an IMAGE of another now. */
    private static RingOfThirds madeOfAll() {
        RingOfThirds x = Texts.ring("dswc;25");
        x.pass(2);
        x.look(1, 1, 2);
        x.image();
        x.pass(3);
        x.pass(1);
        x.claim(0);
        for (int i = 0; i < 7; i++) x.look(2 + i % 6, i % 2, 0);
        Texts.type(x, "pd;3xxxxxx");
        return x;
    }

    private static void refused(Past past, int want, String name, int... with) {
        RingOfThirds x = made(past);
        due.of(past.toString(), x, want, name, with);
        Alike.check(due, past + " behind " + new Call(name, with), x, made(past));
    }

    private static void tells(String name, int... with) {
        for (Past past : Past.values()) {
            RingOfThirds x = made(past);
            long told = new Call(name, with).on(x);
            due.of(past + " again", x, told, name, with);
            Alike.check(due, past + " behind " + new Call(name, with), x, made(past));
        }
    }

    private static void letterRefused() {
        refused(Past.NEW, OUTSIDE, "letter", 0);
        refused(Past.NEW, OUTSIDE, "letter", 127);
        refused(Past.ALL, FULL, "letter", 'p');
        refused(Past.PAGE_FULL, FULL, "letter", 126);
        refused(Past.PAGE_FULL, OUTSIDE, "letter", 0);
        refused(Past.PAGE_FULL, OUTSIDE, "letter", 127);
    }

    private static void ringRefused() {
        refused(Past.NEW, STATE, "ring");
        refused(Past.PAGE_FULL, STATE, "ring");
        refused(Past.RING, STATE, "ring");
        refused(Past.ALL, STATE, "ring");
    }

    private static void aboutRefused() {
        refused(Past.NEW, UNKNOWN, "about", 0, 0);
        refused(Past.NEW, UNKNOWN, "about", -1, 1);
        refused(Past.NEW, UNKNOWN, "about", 0, 7);
        refused(Past.ALL, UNKNOWN, "about", 4, 6);
        refused(Past.ALL, UNKNOWN, "about", -1, 6);
        refused(Past.ALL, OUTSIDE, "about", 3, 7);
        refused(Past.ALL, OUTSIDE, "about", 0, -1);
        refused(Past.ALL, UNKNOWN, "about", 4, 7);
        refused(Past.ALL, UNKNOWN, "about", -1, -1);
    }

    private static void asRefused() {
        refused(Past.NEW, UNKNOWN, "as", 0, 0);
        refused(Past.NEW, UNKNOWN, "as", 0, 5);
        refused(Past.ALL, UNKNOWN, "as", 4, 0);
        refused(Past.ALL, UNKNOWN, "as", -1, 4);
        refused(Past.ALL, OUTSIDE, "as", 0, 5);
        refused(Past.ALL, OUTSIDE, "as", 3, -1);
        refused(Past.ALL, UNKNOWN, "as", 4, 5);
        refused(Past.ALL, UNKNOWN, "as", -1, -1);
    }

    private static void passRefused() {
        refused(Past.NEW, UNKNOWN, "pass", 0);
        refused(Past.NEW, UNKNOWN, "pass", -1);
        refused(Past.RING, STATE, "pass", 0);
        refused(Past.ALL, STATE, "pass", 1);
        refused(Past.ALL, UNKNOWN, "pass", 4);
        refused(Past.ALL, UNKNOWN, "pass", -1);
    }

    /** A CLAIM that is not PAID is answered 0, but changes as little. */
    private static void claimRefused() {
        refused(Past.NEW, UNKNOWN, "claim", 0);
        refused(Past.NEW, UNKNOWN, "claim", -1);
        refused(Past.ALL, UNKNOWN, "claim", 4);
        refused(Past.ALL, UNKNOWN, "claim", -1);
        refused(Past.RING, 0, "claim", 0);
        refused(Past.RING, 0, "claim", 3);
        refused(Past.ALL, 0, "claim", 0);
        refused(Past.ALL, 0, "claim", 1);
    }

    private static void chainRefused() {
        refused(Past.NEW, UNKNOWN, "chain", 0, 0, 0);
        refused(Past.NEW, UNKNOWN, "chain", -1, 32, 2);
        refused(Past.ALL, UNKNOWN, "chain", 4, 0, 0);
        refused(Past.ALL, UNKNOWN, "chain", -1, 0, 1);
        refused(Past.ALL, OUTSIDE, "chain", 0, 32, 0);
        refused(Past.ALL, OUTSIDE, "chain", 0, -1, 1);
        refused(Past.ALL, OUTSIDE, "chain", 0, 0, 2);
        refused(Past.ALL, OUTSIDE, "chain", 0, 0, -1);
        refused(Past.ALL, UNKNOWN, "chain", 4, 32, 0);
        refused(Past.ALL, UNKNOWN, "chain", 4, 0, 2);
        refused(Past.ALL, UNKNOWN, "chain", -1, -1, -1);
    }

    private static void calmRefused() {
        refused(Past.NEW, STATE, "calm", 1, 0);
        refused(Past.NEW, STATE, "calm", 1, 13);
        refused(Past.NEW, STATE, "calm", 4, 13);
        for (Past past : new Past[] {Past.NEW, Past.ALL}) {
            refused(past, OUTSIDE, "calm", 0, 0);
            refused(past, OUTSIDE, "calm", 5, 10);
            refused(past, OUTSIDE, "calm", 1, -1);
            refused(past, OUTSIDE, "calm", 1, 1);
            refused(past, OUTSIDE, "calm", 4, 9);
            refused(past, OUTSIDE, "calm", 4, 14);
            refused(past, OUTSIDE, "calm", 5, 14);
        }
    }

    private static void lookRefused() {
        refused(Past.NEW, STATE, "look", 0, 0, 0);
        refused(Past.NEW, STATE, "look", 8, 1, 7);
        refused(Past.NEW, OUTSIDE, "look", 0, 2, 0);
        refused(Past.ALL, FULL, "look", 0, 0, 0);
        refused(Past.ALL, FULL, "look", 8, 2, 3);
        for (Past past : new Past[] {Past.NEW, Past.RING, Past.ALL}) {
            refused(past, OUTSIDE, "look", 9, 0, 0);
            refused(past, OUTSIDE, "look", -1, 0, 0);
            refused(past, OUTSIDE, "look", 0, 3, 0);
            refused(past, OUTSIDE, "look", 0, -1, 0);
            refused(past, OUTSIDE, "look", 0, 0, 4);
            refused(past, OUTSIDE, "look", 0, 1, 8);
            refused(past, OUTSIDE, "look", 0, 2, 4);
            refused(past, OUTSIDE, "look", 0, 0, -1);
        }
    }

    private static void rowsRefused() {
        refused(Past.NEW, STATE, "rows", 0, 0);
        refused(Past.NEW, STATE, "rows", 8, 1);
        for (Past past : new Past[] {Past.NEW, Past.ALL}) {
            refused(past, OUTSIDE, "rows", -1, 0);
            refused(past, OUTSIDE, "rows", 9, 1);
            refused(past, OUTSIDE, "rows", 0, 2);
            refused(past, OUTSIDE, "rows", 8, -1);
        }
    }

    private static void lookNextRefused() {
        refused(Past.NEW, STATE, "lookNext", 0);
        refused(Past.NEW, STATE, "lookNext", 8);
        for (Past past : new Past[] {Past.NEW, Past.ALL}) {
            refused(past, OUTSIDE, "lookNext", -1);
            refused(past, OUTSIDE, "lookNext", 9);
        }
    }

    private static void seasonsRefused() {
        refused(Past.NEW, STATE, "seasons", 1, 0, 0);
        refused(Past.NEW, STATE, "seasons", 60, Integer.MAX_VALUE, 2);
        for (Past past : new Past[] {Past.NEW, Past.ALL}) {
            refused(past, OUTSIDE, "seasons", 0, 0, 0);
            refused(past, OUTSIDE, "seasons", 61, 0, 1);
            refused(past, OUTSIDE, "seasons", 1, -1, 0);
            refused(past, OUTSIDE, "seasons", 1, 0, 3);
            refused(past, OUTSIDE, "seasons", 1, 0, -1);
        }
    }

    private static void imageRefused() {
        refused(Past.NEW, STATE, "image");
        refused(Past.PAGE_FULL, STATE, "image");
        refused(Past.NEW, STATE, "restore");
        refused(Past.RING, STATE, "restore");
    }

    private static void countRefused() {
        for (Past past : Past.values()) {
            refused(past, OUTSIDE, "count", -1);
            refused(past, OUTSIDE, "count", 10);
        }
    }

    private static void aboutTells() {
        for (int person = 0; person < 4; person++) {
            for (int what = 0; what <= 6; what++) tells("about", person, what);
        }
    }

    private static void asTells() {
        for (int kind = 0; kind <= 4; kind++) tells("as", kind % 4, kind);
    }

    private static void chainTells() {
        for (int person = 0; person < 4; person++) {
            tells("chain", person, 31 - person, 0);
            tells("chain", person, 8 * person, 1);
        }
    }

    private static void calmTells() {
        for (int passes = 1; passes <= 4; passes++) {
            tells("calm", passes, 0);
            tells("calm", passes, 9 + passes);
        }
    }

    private static void rowsTells() {
        for (int passes = 0; passes <= 8; passes++) tells("rows", passes, passes % 2);
    }

    private static void lookNextTells() {
        for (int passes = 0; passes <= 8; passes++) tells("lookNext", passes);
    }

    private static void seasonsTells() {
        for (int what = 0; what <= 2; what++) {
            tells("seasons", 1, 381, what);
            tells("seasons", 60, Integer.MAX_VALUE, what);
        }
    }

    private static void countAndDigestTell() {
        for (int what = 0; what <= 9; what++) tells("count", what);
        tells("digest");
    }

    private static void faultTells() {
        tells("fault");
    }
}
