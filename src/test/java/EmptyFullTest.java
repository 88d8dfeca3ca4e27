/** What is empty and what is full: THE PAGE, LOOKS, no RING, the least and the largest RING. */
public final class EmptyFullTest {
    private static final Due due = new Due("EmptyFullTest");
    private static final int NONE = RingOfThirds.NONE, UNKNOWN = RingOfThirds.UNKNOWN, OUTSIDE = RingOfThirds.OUTSIDE;
    private static final int STATE = RingOfThirds.STATE, FULL = RingOfThirds.FULL;

    public static void main(String[] args) {
        pageOfNone();
        pageOfOne();
        pageOfTen();
        pageOfMoreThanTen();
        pageFullAgain();
        pageBehindRing();
        noLooks();
        eightLooks();
        oneLookMore();
        looksFullAgain();
        looksOfTheRingThatIsGone();
        noRingCounts();
        noRingUnknown();
        noRingState();
        noRingRest();
        ringOfTwo();
        ringOfFour();
        ringOfOneAndOfFive();
        due.end();
    }

    private static void pageOfNone() {
        RingOfThirds x = new RingOfThirds();
        due.of("no letters", x, 0, "count", 8);
        due.of("no letters", x, 0, "fault");
        due.of("no letters", x, 0, "blank");
        due.of("no letters", x, STATE, "ring");
        due.of("no letters", x, 0, "blank");
        due.of("no letters", x, 1, "letter", 'p');
    }

    private static void pageOfOne() {
        RingOfThirds x = Texts.page("p");
        due.of("one letter", x, 1, "count", 8);
        due.of("one letter", x, 1, "fault");
        due.of("one letter", x, STATE, "ring");
        due.of("one letter", x, 1, "blank");
        due.of("one letter", x, 0, "count", 8);
    }

    private static void pageOfTen() {
        RingOfThirds x = Texts.page("pcsw;3700");
        due.of("nine letters", x, 9, "count", 8);
        due.of("nine letters", x, 10, "letter", '0');
        due.of("ten letters", x, 10, "count", 8);
        due.of("ten letters", x, 7, "fault");
        due.of("ten letters", x, STATE, "ring");
        due.of("ten letters", x, Digests.sumOf(x, "pcsw;37000"), "digest");
        due.of("ten letters", x, 10, "blank");
        due.of("ten letters gone", x, 0, "count", 8);
        due.of("ten letters gone", x, 0, "fault");
    }

    /** A letter too many is not kept: neither in place of another one nor for later. */
    private static void pageOfMoreThanTen() {
        RingOfThirds x = Texts.page("pcsw;37000");
        for (int code : new int[] {'p', 1, 126}) due.of("ten letters", x, FULL, "letter", code);
        due.of("ten letters", x, 10, "count", 8);
        due.of("ten letters", x, Digests.sumOf(x, "pcsw;37000"), "digest");
        due.of("ten letters", x, OUTSIDE, "letter", 0);
        due.of("ten letters", x, OUTSIDE, "letter", 127);
        due.of("ten letters", x, 10, "blank");
        Texts.type(x, "cc;11");
        due.of("cc;11 behind a full PAGE", x, 5, "count", 8);
        due.of("cc;11 behind a full PAGE", x, 5, "fault");
        due.of("cc;11 behind a full PAGE", x, 2, "ring");
        due.of("cc;11 behind a full PAGE", x, 1, "about", 1, 0);
    }

    private static void pageFullAgain() {
        RingOfThirds x = Texts.page("pppppppppp");
        x.blank();
        for (int i = 1; i <= 10; i++) due.of("blank, then", x, i, "letter", 'c');
        due.of("blank, then", x, FULL, "letter", 'c');
        due.of("blank, then", x, 10, "blank");
    }

    private static void pageBehindRing() {
        RingOfThirds x = Texts.page("pcsw;37");
        due.of("seven letters", x, 4, "ring");
        due.of("behind ring()", x, 0, "count", 8);
        due.of("behind ring()", x, 0, "fault");
        due.of("behind ring()", x, STATE, "ring");
        due.of("behind ring()", x, 0, "blank");
        for (int i = 1; i <= 10; i++) due.of("behind ring()", x, i, "letter", 'p');
        due.of("behind ring()", x, FULL, "letter", 'p');
    }

    private static void noLooks() {
        RingOfThirds x = Texts.ring("ppp;00");
        due.of("no LOOKS", x, 0, "count", 7);
        due.of("no LOOKS", x, 0, "forget");
        due.of("no LOOKS", x, 256, "rows", 8, 0);
        due.of("no LOOKS", x, 0, "forget");
    }

    private static void eightLooks() {
        RingOfThirds x = Texts.ring("ppp;00");
        for (int i = 1; i <= 7; i++) due.of("LOOKS", x, i, "look", 0, 0, 0);
        due.of("seven LOOKS", x, 256, "rows", 8, 0);
        due.of("seven LOOKS", x, 8, "look", 8, 2, 1);
        due.of("eight LOOKS", x, 8, "count", 7);
        due.of("eight LOOKS", x, 2, "rows", 8, 1);
        due.of("eight LOOKS", x, 128, "rows", 7, 0);
        due.of("eight LOOKS", x, 8, "forget");
        due.of("eight LOOKS gone", x, 0, "count", 7);
        due.of("eight LOOKS gone", x, 7, "rows", 8, 1);
    }

    /** A ninth LOOK is not kept; ROWS are as the eight tell. */
    private static void oneLookMore() {
        RingOfThirds x = Texts.ring("ppp;00");
        for (int i = 1; i <= 8; i++) x.look(0, 2, 0);
        due.of("eight LOOKS", x, FULL, "look", 0, 2, 1);
        due.of("eight LOOKS", x, FULL, "look", 0, 2, 0);
        due.of("eight LOOKS", x, FULL, "look", 8, 1, 7);
        due.of("eight LOOKS", x, OUTSIDE, "look", 9, 1, 7);
        due.of("eight LOOKS", x, OUTSIDE, "look", 0, 3, 0);
        due.of("eight LOOKS", x, OUTSIDE, "look", 0, 2, 3);
        due.of("eight LOOKS", x, 8, "count", 7);
        due.of("eight LOOKS", x, 1, "rows", 0, 0);
        due.of("eight LOOKS", x, 256, "rows", 8, 0);
        due.of("eight LOOKS", x, 8, "forget");
    }

    private static void looksFullAgain() {
        RingOfThirds x = Texts.ring("ppp;00");
        for (int i = 1; i <= 9; i++) x.look(0, 2, 1);
        x.forget();
        for (int i = 1; i <= 8; i++) due.of("forget, then", x, i, "look", 0, 2, 0);
        due.of("forget, then", x, FULL, "look", 0, 2, 0);
        due.of("forget, then", x, 1, "rows", 0, 0);
    }

    private static void looksOfTheRingThatIsGone() {
        RingOfThirds x = Texts.ring("ppp;00");
        for (int i = 1; i <= 8; i++) x.look(0, 2, 1);
        Texts.type(x, "ppp;00");
        x.ring();
        due.of("another RING", x, 0, "count", 7);
        due.of("another RING", x, 1, "rows", 0, 0);
        due.of("another RING", x, 1, "look", 0, 2, 1);
    }

    private static void noRingCounts() {
        int[] counts = {0, NONE, 0, 0, 0, 0, 0, 0, 0, 0};
        for (int what = 0; what <= 9; what++) due.of("no RING", new RingOfThirds(), counts[what], "count", what);
        due.of("no RING", Texts.page("pcs"), 3, "count", 8);
    }

    private static void noRingUnknown() {
        for (int person : new int[] {-1, 0, 1, 3, 4}) {
            RingOfThirds x = Texts.page("pc;0");
            for (int what = -1; what <= 7; what++) due.of("no RING", x, UNKNOWN, "about", person, what);
            for (int kind = -1; kind <= 5; kind++) due.of("no RING", x, UNKNOWN, "as", person, kind);
            due.of("no RING", x, UNKNOWN, "pass", person);
            due.of("no RING", x, UNKNOWN, "claim", person);
            for (int what = -1; what <= 2; what++) due.of("no RING", x, UNKNOWN, "chain", person, 0, what);
        }
    }

    private static void noRingState() {
        RingOfThirds x = Texts.page("pc;0");
        for (int passes = 1; passes <= 4; passes++) {
            due.of("no RING", x, STATE, "calm", passes, 0);
            for (int what = 10; what <= 13; what++) due.of("no RING", x, STATE, "calm", passes, what);
        }
        for (int passes = 0; passes <= 8; passes++) {
            due.of("no RING", x, STATE, "look", passes, 0, 3);
            due.of("no RING", x, STATE, "look", passes, 1, 7);
            due.of("no RING", x, STATE, "rows", passes, 0);
            due.of("no RING", x, STATE, "rows", passes, 1);
            due.of("no RING", x, STATE, "lookNext", passes);
        }
        for (int what = 0; what <= 2; what++) due.of("no RING", x, STATE, "seasons", 60, 0, what);
        due.of("no RING", x, STATE, "ring");
        due.of("no RING", x, STATE, "image");
        due.of("no RING", x, STATE, "restore");
        due.of("no RING", x, 4, "count", 8);
    }

    /** Nobody has it, so no LOOK can tell of who has it; to forget is not refused. */
    private static void noRingRest() {
        RingOfThirds x = new RingOfThirds();
        for (int value = -1; value <= 4; value++) due.of("no RING", x, OUTSIDE, "look", 0, 2, value);
        due.of("no RING", x, 0, "forget");
        due.of("no RING", x, 0, "fault");
        due.of("no RING", x, Digests.sumOf(x, ""), "digest");
    }

    private static void ringOfTwo() {
        RingOfThirds x = Texts.page("pc;00");
        due.of("pc;00", x, 2, "ring");
        due.of("pc;00", x, 2, "count", 0);
        due.of("pc;00", x, 1, "about", 1, 6);
        due.of("pc;00", x, UNKNOWN, "about", 2, 6);
        due.of("pc;00", x, 1, "rows", 8, 0);
        due.of("pc;00", x, 1, "rows", 8, 1);
        due.of("pc;00", x, 2, "rows", 7, 1);
        due.of("pc;00", x, 0, "calm", 4, 13);
        due.of("pc;00", x, 7, "chain", 1, 0, 0);
        due.of("pc;00", x, 8, "pass", 1);
        due.of("pc;00", x, UNKNOWN, "pass", 2);
        due.of("pc;00", x, Digests.sumOf(x, ""), "digest");
    }

    private static void ringOfFour() {
        RingOfThirds x = Texts.page("pcsd;37");
        due.of("pcsd;37", x, 4, "ring");
        due.of("pcsd;37", x, 4, "count", 0);
        due.of("pcsd;37", x, 0, "about", 3, 5);
        due.of("pcsd;37", x, UNKNOWN, "about", 4, 5);
        due.of("pcsd;37", x, 6561, "rows", 8, 0);
        due.of("pcsd;37", x, 15, "rows", 8, 1);
        due.of("pcsd;37", x, 14, "rows", 1, 1);
        due.of("pcsd;37", x, 3, "as", 3, 1);
        due.of("pcsd;37", x, 0, "pass", 3);
        due.of("pcsd;37", x, 3, "count", 1);
        due.of("pcsd;37", x, 1, "claim", 0);
        due.of("pcsd;37", x, 1, "look", 1, 2, 3);
        due.of("pcsd;37", x, 0, "rows", 1, 0);
        due.of("pcsd;37", x, Digests.sumOf(x, ""), "digest");
    }

    private static void ringOfOneAndOfFive() {
        for (String text : new String[] {"p;00", ";00", "ppppp;00", "pppppp;00"}) {
            RingOfThirds x = Texts.page(text);
            due.of(text, x, STATE, "ring");
            due.of(text, x, 0, "count", 0);
            due.of(text, x, text.length(), "count", 8);
        }
    }
}
