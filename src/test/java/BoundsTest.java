/** Each number that the document bounds: at its bounds, one beyond them on either side, the least and the largest int. */
public final class BoundsTest {
    private static final Due due = new Due("BoundsTest");
    private static final int UNKNOWN = RingOfThirds.UNKNOWN, OUTSIDE = RingOfThirds.OUTSIDE, NONE = RingOfThirds.NONE;
    private static final int LEAST = Integer.MIN_VALUE, LARGEST = Integer.MAX_VALUE;
    /** Stands for the number that is tried beyond its bounds. */
    private static final int HERE = 4711;

    public static void main(String[] args) {
        codeOfLetter();
        codeOfEachLetter();
        personAndWhatOfAbout();
        personAndKindOfAs();
        personOfPass();
        personOfClaim();
        personOfChain();
        marksAndWhatOfChain();
        passesAndWhatOfCalm();
        passesOfLook();
        sortOfLook();
        valueOfStone();
        valueOfWord();
        valueOfWhoHasIt();
        passesAndWhatOfRows();
        passesOfLookNext();
        timesOfSeasons();
        seedOfSeasons();
        whatOfSeasons();
        whatOfCount();
        due.end();
    }

    /** The call with HERE one beyond each bound, the least and the largest int, is refused so. */
    private static void beyond(String text, int want, int below, int above, String name, int... with) {
        for (int tried : new int[] {below, above, LEAST, LARGEST, LEAST + 10, LARGEST - 10}) {
            int[] numbers = with.clone();
            for (int i = 0; i < numbers.length; i++) numbers[i] = with[i] == HERE ? tried : with[i];
            due.of(text, Texts.ring(text), want, name, numbers);
        }
    }

    private static void at(String text, int want, String name, int... with) {
        due.of(text, Texts.ring(text), want, name, with);
    }

    private static void codeOfLetter() {
        at("", 1, "letter", 1);
        at("", 1, "letter", 126);
        beyond("", OUTSIDE, 0, 127, "letter", HERE);
        beyond("", OUTSIDE, -1, 128, "letter", HERE);
    }

    private static void codeOfEachLetter() {
        RingOfThirds x = new RingOfThirds();
        for (int code = 1; code <= 126; code++) {
            due.of("one letter", x, 1, "letter", code);
            due.of("one letter", x, 1, "blank");
        }
    }

    private static void personAndWhatOfAbout() {
        at("pc;00", 0, "about", 0, 0);
        at("pc;00", 1, "about", 1, 0);
        beyond("pc;00", UNKNOWN, -1, 2, "about", HERE, 0);
        at("psw;00", 3, "about", 2, 0);
        beyond("psw;00", UNKNOWN, -1, 3, "about", HERE, 6);
        at("dswc;25", 4, "about", 0, 0);
        at("dswc;25", 1, "about", 3, 0);
        beyond("dswc;25", UNKNOWN, -1, 4, "about", HERE, 1);
        at("dswc;25", 1, "about", 3, 6);
        beyond("dswc;25", OUTSIDE, -1, 7, "about", 3, HERE);
        beyond("dswc;25", OUTSIDE, -1, 7, "about", 0, HERE);
    }

    private static void personAndKindOfAs() {
        at("pc;00", 0, "as", 0, 0);
        at("pc;00", 1, "as", 1, 0);
        beyond("pc;00", UNKNOWN, -1, 2, "as", HERE, 0);
        at("psw;00", 2, "as", 2, 3);
        beyond("psw;00", UNKNOWN, -1, 3, "as", HERE, 3);
        at("wscd;25", 0, "as", 0, 0);
        at("wscd;25", 3, "as", 3, 0);
        beyond("wscd;25", UNKNOWN, -1, 4, "as", HERE, 4);
        at("wscd;25", 3, "as", 3, 4);
        at("wscd;25", NONE, "as", 0, 4);
        beyond("wscd;25", OUTSIDE, -1, 5, "as", 3, HERE);
        beyond("wscd;25", OUTSIDE, -1, 5, "as", 0, HERE);
    }

    private static void personOfPass() {
        passBounds("pc;00", 1, 8, 8);
        passBounds("psw;37", 2, 24, 24);
        passBounds("dswc;25", 3, 29, 2);
    }

    private static void passBounds(String text, int last, int toLast, int backToFirst) {
        RingOfThirds x = Texts.ring(text);
        due.of(text, x, toLast, "pass", last);
        due.of(text, x, backToFirst, "pass", 0);
        beyond(text, UNKNOWN, -1, last + 1, "pass", HERE);
    }

    private static void personOfClaim() {
        claimBounds("cp;00", 1);
        claimBounds("cpp;00", 2);
        claimBounds("cppp;00", 3);
        RingOfThirds x = Texts.ring("pc;00");
        x.pass(1);
        due.of("pc;00", x, 1, "claim", 0);
    }

    /** The last one remembers 0; a CUTTER has it then, with 8. */
    private static void claimBounds(String text, int last) {
        RingOfThirds x = Texts.ring(text);
        x.pass(last);
        x.pass(0);
        due.of(text, x, 1, "claim", last);
        x.pass(last);
        x.pass(0);
        x.pass(last);
        due.of(text, x, 0, "claim", 0);
        beyond(text, UNKNOWN, -1, last + 1, "claim", HERE);
    }

    private static void personOfChain() {
        at("pc;00", 0, "chain", 0, 0, 0);
        at("pc;00", 1, "chain", 1, 8, 0);
        beyond("pc;00", UNKNOWN, -1, 2, "chain", HERE, 0, 0);
        at("psw;00", 1, "chain", 2, 0, 0);
        beyond("psw;00", UNKNOWN, -1, 3, "chain", HERE, 0, 1);
        at("dswc;25", 0, "chain", 0, 21, 0);
        at("dswc;25", 1, "chain", 3, 29, 0);
        beyond("dswc;25", UNKNOWN, -1, 4, "chain", HERE, 31, 1);
    }

    /** From p with 0, each PASS to d goes on: 15, 16, 31, 0. */
    private static void marksAndWhatOfChain() {
        at("pd;00", 0, "chain", 0, 0, 0);
        at("pd;00", 7, "chain", 1, 0, 0);
        at("pd;00", 5, "chain", 1, 31, 0);
        at("pd;00", 6, "chain", 0, 31, 0);
        beyond("pd;00", OUTSIDE, -1, 32, "chain", 0, HERE, 0);
        beyond("pd;00", OUTSIDE, -1, 32, "chain", 1, HERE, 1);
        at("pd;00", NONE, "chain", 0, 0, 1);
        at("pd;00", 1, "chain", 1, 31, 1);
        beyond("pd;00", OUTSIDE, -1, 2, "chain", 1, 31, HERE);
        beyond("pd;00", OUTSIDE, -1, 2, "chain", 0, 0, HERE);
    }

    private static void passesAndWhatOfCalm() {
        at("pc;00", 1, "calm", 1, 0);
        at("pc;00", 0, "calm", 4, 0);
        beyond("pc;00", OUTSIDE, 0, 5, "calm", HERE, 0);
        beyond("pc;00", OUTSIDE, 0, 5, "calm", HERE, 10);
        at("pc;00", 1, "calm", 1, 10);
        at("pc;00", 1, "calm", 4, 10);
        at("pc;00", 0, "calm", 4, 13);
        at("pc;00", NONE, "calm", 1, 13);
        for (int passes = 1; passes <= 4; passes++) {
            beyond("pc;00", OUTSIDE, -1, 1, "calm", passes, HERE);
            beyond("pc;00", OUTSIDE, 9, 14, "calm", passes, HERE);
        }
    }

    private static void passesOfLook() {
        at("pc;00", 1, "look", 0, 0, 0);
        at("pc;00", 1, "look", 8, 0, 0);
        beyond("pc;00", OUTSIDE, -1, 9, "look", HERE, 0, 0);
        beyond("pc;00", OUTSIDE, -1, 9, "look", HERE, 2, 1);
    }

    private static void sortOfLook() {
        at("pc;00", 1, "look", 0, 0, 1);
        at("pc;00", 1, "look", 0, 2, 1);
        beyond("pc;00", OUTSIDE, -1, 3, "look", 0, HERE, 0);
    }

    private static void valueOfStone() {
        at("pc;00", 1, "look", 0, 0, 0);
        at("pc;00", 1, "look", 0, 0, 3);
        beyond("pc;00", OUTSIDE, -1, 4, "look", 0, 0, HERE);
    }

    private static void valueOfWord() {
        at("pc;00", 1, "look", 0, 1, 0);
        at("pc;00", 1, "look", 0, 1, 7);
        beyond("pc;00", OUTSIDE, -1, 8, "look", 0, 1, HERE);
    }

    /** One of PEOPLE: of two, of three and of four; of none without a RING. */
    private static void valueOfWhoHasIt() {
        for (String text : new String[] {"pc;00", "psw;00", "dswc;25"}) {
            int people = text.indexOf(';');
            at(text, 1, "look", 0, 2, 0);
            at(text, 1, "look", 0, 2, people - 1);
            beyond(text, OUTSIDE, -1, people, "look", 0, 2, HERE);
        }
        beyond("", OUTSIDE, -1, 0, "look", 0, 2, HERE);
    }

    private static void passesAndWhatOfRows() {
        at("ppp;00", 1, "rows", 0, 0);
        at("ppp;00", 256, "rows", 8, 0);
        beyond("ppp;00", OUTSIDE, -1, 9, "rows", HERE, 0);
        beyond("ppp;00", OUTSIDE, -1, 9, "rows", HERE, 1);
        at("ppp;00", 1, "rows", 0, 1);
        at("ppp;00", 7, "rows", 8, 1);
        beyond("ppp;00", OUTSIDE, -1, 2, "rows", 0, HERE);
        beyond("ppp;00", OUTSIDE, -1, 2, "rows", 8, HERE);
    }

    private static void passesOfLookNext() {
        at("pppp;00", 0, "lookNext", 0);
        at("pppp;00", 2, "lookNext", 8);
        beyond("pppp;00", OUTSIDE, -1, 9, "lookNext", HERE);
    }

    private static void timesOfSeasons() {
        at("dswc;25", 12345, "seasons", 1, 0, 2);
        at("dswc;25", 127474245, "seasons", 60, 1, 2);
        at("dswc;25", 26, "seasons", 60, 1, 1);
        at("dswc;25", 39, "seasons", 60, 1, 0);
        beyond("dswc;25", OUTSIDE, 0, 61, "seasons", HERE, 1, 0);
        beyond("dswc;25", OUTSIDE, -1, 62, "seasons", HERE, 1, 2);
    }

    private static void seedOfSeasons() {
        at("pc;00", 12345, "seasons", 1, 0, 2);
        at("pc;00", 1103527590, "seasons", 1, 1, 2);
        at("pc;00", 1043980748, "seasons", 1, LARGEST, 2);
        at("dswc;25", 45, "seasons", 60, LARGEST, 0);
        for (int seed : new int[] {-1, LEAST, LEAST + 1}) {
            for (int what = 0; what <= 2; what++) at("pc;00", OUTSIDE, "seasons", 1, seed, what);
        }
    }

    private static void whatOfSeasons() {
        at("pc;00", 1, "seasons", 1, LARGEST, 0);
        at("pc;00", 8, "seasons", 1, LARGEST, 1);
        at("pc;00", 1043980748, "seasons", 1, LARGEST, 2);
        beyond("pc;00", OUTSIDE, -1, 3, "seasons", 1, LARGEST, HERE);
        beyond("pc;00", OUTSIDE, -1, 3, "seasons", 60, 0, HERE);
    }

    private static void whatOfCount() {
        at("dswc;25", 4, "count", 0);
        at("dswc;25", 1, "count", 9);
        beyond("dswc;25", OUTSIDE, -1, 10, "count", HERE);
        beyond("", OUTSIDE, -1, 10, "count", HERE);
    }
}
