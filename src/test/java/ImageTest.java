/** Promises 17 and 18: what an IMAGE keeps, each by itself, which one it is, and when there is none. */
public final class ImageTest {
    private static final Due due = new Due("ImageTest");
    private static final int STATE = RingOfThirds.STATE, NONE = RingOfThirds.NONE;

    public static void main(String[] args) {
        noImage();
        imageOfARingThatIsGone();
        imageOfTheSameTextThatIsGone();
        imageBehindWhatIsNoRing();
        theLatestImage();
        restoredTwice();
        howManyPasses();
        keepsWhoHasIt();
        keepsMarks();
        keepsWhatEachRemembers();
        keepsWhoMadeAClaim();
        keepsHowOftenEachWasPaid();
        keepsLooks();
        keepsEachPartOfALook();
        keepsNoLooks();
        keepsNotThePage();
        keepsNotHowOftenRead();
        isNotPlayedOn();
        due.end();
    }

    private static void noImage() {
        due.of("no RING", new RingOfThirds(), STATE, "image");
        due.of("no RING", new RingOfThirds(), STATE, "restore");
        RingOfThirds x = Texts.ring("cc;00");
        x.pass(1);
        due.of("no IMAGE", x, STATE, "restore");
        due.of("no IMAGE", x, 1, "count", 4);
        due.of("no IMAGE", x, 1, "count", 1);
        RingOfThirds y = new RingOfThirds();
        y.image();
        Texts.type(y, "cc;00");
        y.ring();
        due.of("an IMAGE refused ahead of the RING", y, STATE, "restore");
    }

    private static void imageOfARingThatIsGone() {
        RingOfThirds x = Texts.ring("cc;00");
        x.pass(1);
        x.image();
        Texts.type(x, "dswc;25");
        x.ring();
        due.of("another RING", x, STATE, "restore");
        due.of("another RING", x, 4, "count", 0);
        due.of("another RING", x, 0, "count", 4);
        due.of("another RING", x, 0, "image");
        due.of("another RING", x, 0, "restore");
    }

    private static void imageOfTheSameTextThatIsGone() {
        RingOfThirds x = Texts.ring("cc;00");
        x.pass(1);
        due.of("cc;00", x, 1, "image");
        Texts.type(x, "cc;00");
        due.of("cc;00", x, 2, "ring");
        due.of("cc;00 again", x, STATE, "restore");
        due.of("cc;00 again", x, STATE, "restore");
        due.of("cc;00 again", x, 0, "count", 1);
        due.of("cc;00 again", x, 0, "count", 4);
        x.pass(1);
        x.pass(0);
        due.of("cc;00 again", x, 2, "image");
        due.of("cc;00 again", x, 2, "restore");
    }

    private static void imageBehindWhatIsNoRing() {
        RingOfThirds x = Texts.ring("cc;00");
        x.image();
        x.pass(1);
        Texts.type(x, "cc;0");
        due.of("cc;0", x, STATE, "ring");
        due.of("cc;0", x, 0, "restore");
        due.of("cc;0", x, 0, "count", 1);
    }

    private static void theLatestImage() {
        RingOfThirds x = Texts.ring("cc;00");
        due.of("cc;00", x, 0, "image");
        x.pass(1);
        x.pass(0);
        due.of("cc;00", x, 2, "image");
        x.pass(1);
        due.of("cc;00", x, 2, "restore");
        due.of("the latest", x, 2, "count", 2);
    }

    private static void restoredTwice() {
        RingOfThirds x = Texts.ring("cc;00");
        x.pass(1);
        x.image();
        for (int turn = 0; turn < 2; turn++) {
            x.pass(0);
            x.claim(1);
            due.of("cc;00", x, 1, "restore");
            due.of("restored " + turn, x, 1, "count", 1);
            due.of("restored " + turn, x, 0, "count", 6);
        }
        due.of("restored at once", x, 1, "restore");
    }

    private static void howManyPasses() {
        RingOfThirds x = Texts.ring("pp;00");
        for (int passes = 1; passes <= 3; passes++) {
            x.pass(passes % 2);
            due.of("pp;00", x, passes, "image");
        }
        x.pass(0);
        due.of("pp;00", x, 4, "count", 4);
        due.of("pp;00", x, 3, "restore");
        due.of("pp;00", x, 3, "count", 4);
    }

    private static void keepsWhoHasIt() {
        RingOfThirds x = Texts.ring("ppp;00");
        x.image();
        x.pass(2);
        x.restore();
        due.of("ppp;00", x, 0, "count", 1);
        due.of("ppp;00", x, 1, "about", 0, 1);
        due.of("ppp;00", x, 0, "about", 2, 1);
        due.of("ppp;00", x, STATE, "pass", 0);
    }

    private static void keepsMarks() {
        RingOfThirds x = Texts.ring("dsw;25");
        x.image();
        x.pass(1);
        x.pass(2);
        x.restore();
        due.of("dsw;25", x, 2, "count", 2);
        due.of("dsw;25", x, 5, "count", 3);
        due.of("dsw;25", x, 17, "pass", 1);
    }

    private static void keepsWhatEachRemembers() {
        RingOfThirds x = Texts.ring("ccp;00");
        x.pass(1);
        x.image();
        x.pass(0);
        x.pass(2);
        due.of("ccp;00", x, 8, "about", 1, 2);
        due.of("ccp;00", x, 16, "about", 0, 2);
        x.restore();
        due.of("ccp;00 restored", x, 0, "about", 0, 2);
        due.of("ccp;00 restored", x, NONE, "about", 1, 2);
        due.of("ccp;00 restored", x, 1, "about", 0, 3);
    }

    /** Who was PAID ahead of the IMAGE is not PAID again, though she had it since; who was PAID behind it, is. */
    private static void keepsWhoMadeAClaim() {
        RingOfThirds x = Texts.ring("ccc;00");
        x.pass(1);
        x.pass(2);
        due.of("ccc;00", x, 1, "claim", 0);
        x.image();
        due.of("ccc;00", x, 1, "claim", 1);
        x.pass(0);
        x.pass(2);
        x.restore();
        due.of("ccc;00 restored", x, 0, "claim", 0);
        due.of("ccc;00 restored", x, 1, "claim", 1);
        due.of("ccc;00 restored", x, 0, "claim", 1);
    }

    private static void keepsHowOftenEachWasPaid() {
        RingOfThirds x = Texts.ring("pc;00");
        x.pass(1);
        x.claim(0);
        x.image();
        x.pass(0);
        x.pass(1);
        x.claim(0);
        due.of("pc;00", x, 2, "about", 0, 4);
        x.restore();
        due.of("pc;00 restored", x, 1, "about", 0, 4);
        due.of("pc;00 restored", x, 1, "count", 6);
    }

    private static void keepsLooks() {
        RingOfThirds x = Texts.ring("ppp;00");
        x.look(1, 2, 1);
        x.look(2, 2, 2);
        x.image();
        x.forget();
        x.look(1, 2, 2);
        x.restore();
        due.of("ppp;00", x, 2, "count", 7);
        due.of("ppp;00", x, 2, "rows", 1, 1);
        due.of("ppp;00", x, 4, "rows", 2, 1);
        due.of("ppp;00", x, 1, "rows", 2, 0);
        due.of("ppp;00", x, 3, "look", 0, 0, 0);
    }

    private static void keepsEachPartOfALook() {
        RingOfThirds x = Texts.ring("ppp;00");
        x.look(1, 2, 1);
        x.image();
        x.forget();
        x.look(2, 0, 3);
        due.of("ppp;00", x, 6, "rows", 1, 1);
        due.of("ppp;00", x, 0, "rows", 2, 1);
        x.restore();
        due.of("ppp;00 restored", x, 2, "rows", 1, 1);
        due.of("ppp;00 restored", x, 5, "rows", 2, 1);
    }

    private static void keepsNoLooks() {
        RingOfThirds x = Texts.ring("ppp;00");
        x.image();
        for (int i = 1; i <= 8; i++) x.look(0, 2, 1);
        x.restore();
        due.of("ppp;00", x, 0, "count", 7);
        due.of("ppp;00", x, 1, "rows", 0, 0);
        due.of("ppp;00", x, 1, "look", 0, 2, 1);
        due.of("ppp;00", x, 1, "forget");
    }

    private static void keepsNotThePage() {
        RingOfThirds x = Texts.ring("ppp;00");
        Texts.type(x, "pp");
        x.image();
        x.blank();
        Texts.type(x, "qqq");
        x.restore();
        due.of("qqq", x, 3, "count", 8);
        due.of("qqq", x, 0, "fault");
        due.of("qqq", x, 3, "blank");
    }

    private static void keepsNotHowOftenRead() {
        RingOfThirds x = Texts.ring("ppp;00");
        Texts.type(x, "pp;00");
        x.ring();
        x.image();
        x.restore();
        due.of("pp;00", x, 2, "count", 9);
    }

    /** What comes behind image(), and behind restore(), does not change what is kept. */
    private static void isNotPlayedOn() {
        RingOfThirds x = Texts.ring("dswc;25");
        x.pass(1);
        x.look(1, 2, 0);
        x.image();
        long digest = x.digest();
        for (int turn = 0; turn < 3; turn++) {
            x.pass(turn == 0 ? 0 : 2);
            x.pass(3);
            for (int person = 0; person < 4; person++) x.claim(person);
            x.look(turn, 0, 1);
            x.seasons(60, turn, 0);
            x.restore();
            due.of("restored " + turn, x, digest, "digest");
        }
    }
}
