import java.math.BigInteger;

/** Each wrap-around: STONE behind 3, WORD by 8, a DENTIST's WORD, DRAWS by 2 to the 31, the digest as longs. */
public final class WrapTest {
    private static final Due due = new Due("WrapTest");
    private static final int LARGEST = Integer.MAX_VALUE;
    private static final int[] STONE_CUT = {1, 2, 3, 0};
    private static final int[] WORD_OF_DENTIST = {7, 6, 5, 4, 3, 2, 1, 0};
    /** By the number of the SCRATCHER, then by WORD. */
    private static final int[][] WORD_SCRATCHED = {
        {1, 4, 7, 2, 5, 0, 3, 6}, {2, 5, 0, 3, 6, 1, 4, 7}, {3, 6, 1, 4, 7, 2, 5, 0}, {4, 7, 2, 5, 0, 3, 6, 1}};

    public static void main(String[] args) {
        stoneBehindThree();
        wordByEight();
        wordOfDentist();
        wordOfWasherAndPerson();
        stoneAllTheWayRound();
        seedByTwoToTheThirtyOne();
        seedOfManyTimes();
        drawByTheSeedsUpperPart();
        drawByHowManyThereAre();
        digestAsLongs();
        due.end();
    }

    private static String textOf(String kinds, int stone, int word) {
        return kinds + ";" + stone + word;
    }

    /** A PASS does it, and what about() tells of it before is the same. */
    private static void passIs(String text, int person, int want) {
        RingOfThirds x = Texts.ring(text);
        if (person == 0) x.pass(1);
        due.of(text, x, want, "about", person, 5);
        due.of(text, x, want, "pass", person);
        due.of(text, x, want / 8, "count", 2);
        due.of(text, x, want % 8, "count", 3);
    }

    private static void stoneBehindThree() {
        for (int stone = 0; stone < 4; stone++) {
            for (int word = 0; word < 8; word++) {
                passIs(textOf("pc", stone, word), 1, 8 * STONE_CUT[stone] + word);
                passIs(textOf("cp", stone, word), 0, 8 * STONE_CUT[stone] + word);
            }
        }
    }

    private static void wordByEight() {
        String[] withScratcher = {"sp", "ps", "pps", "ppps"};
        for (int number = 0; number < 4; number++) {
            for (int stone = 0; stone < 4; stone++) {
                for (int word = 0; word < 8; word++) {
                    String text = textOf(withScratcher[number], stone, word);
                    passIs(text, number, 8 * stone + WORD_SCRATCHED[number][word]);
                }
            }
        }
    }

    private static void wordOfDentist() {
        for (int stone = 0; stone < 4; stone++) {
            for (int word = 0; word < 8; word++) {
                passIs(textOf("pd", stone, word), 1, 8 * STONE_CUT[stone] + WORD_OF_DENTIST[word]);
                passIs(textOf("dp", stone, word), 0, 8 * STONE_CUT[stone] + WORD_OF_DENTIST[word]);
            }
        }
    }

    private static void wordOfWasherAndPerson() {
        for (int stone = 0; stone < 4; stone++) {
            for (int word = 0; word < 8; word++) {
                passIs(textOf("pw", stone, word), 1, 8 * stone);
                passIs(textOf("pp", stone, word), 1, 8 * stone + word);
            }
        }
    }

    private static void stoneAllTheWayRound() {
        RingOfThirds x = Texts.ring("cc;05");
        int[] wants = {13, 21, 29, 5, 13, 21, 29, 5};
        for (int i = 0; i < wants.length; i++) due.of("cc;05", x, wants[i], "pass", 1 - i % 2);
        due.of("cc;05", x, 8, "count", 4);
    }

    /** The last SEED below 2 to the 31, one beyond it, and those whose next one is 0, 1 and the largest. */
    private static void seedByTwoToTheThirtyOne() {
        RingOfThirds x = Texts.ring("pc;00");
        int[][] nexts = {{0, 12345}, {1, 1103527590}, {2, 59559187}, {2088216195, 0}, {1798410728, 1},
            {230538014, LARGEST}, {LARGEST, 1043980748}};
        for (int[] next : nexts) due.of("pc;00", x, next[1], "seasons", 1, next[0], 2);
    }

    private static void seedOfManyTimes() {
        BigInteger limit = BigInteger.TWO.pow(31);
        for (int seed : new int[] {0, 1, 2, 381, 65536, 2088216195, LARGEST - 1, LARGEST}) {
            RingOfThirds x = Texts.ring("dswc;25");
            BigInteger then = BigInteger.valueOf(seed);
            for (int times = 1; times <= 60; times++) {
                then = then.multiply(BigInteger.valueOf(1103515245)).add(BigInteger.valueOf(12345)).mod(limit);
                due.of("dswc;25", x, then.intValueExact(), "seasons", times, seed, 2);
            }
        }
    }

    /** The next SEED is 65535, 65536, 131071 and 131072: of four, the DRAW is 0, 1, 1 and 2. */
    private static void drawByTheSeedsUpperPart() {
        RingOfThirds x = Texts.ring("pcsd;00");
        int[][] marks = {{2032319262, 0}, {1742513795, 8}, {1686616862, 8}, {1396811395, 3}};
        for (int[] one : marks) due.of("pcsd;00", x, one[1], "seasons", 1, one[0], 1);
    }

    /** The next SEED by 65536 is 4, 32767 and 3: its rests by two, three and four differ. */
    private static void drawByHowManyThereAre() {
        int[][] marks = {{705406595, 0, 8, 0}, {230538014, 8, 8, 15}, {1051108995, 8, 0, 15}};
        for (int[] one : marks) {
            due.of("of two", Texts.ring("pc;00"), one[1], "seasons", 1, one[0], 1);
            due.of("of three", Texts.ring("pcs;00"), one[2], "seasons", 1, one[0], 1);
            due.of("of four", Texts.ring("pcsd;00"), one[3], "seasons", 1, one[0], 1);
        }
    }

    private static void digestAsLongs() {
        digestIs(Texts.page("~~~~~~~~~~"), "~~~~~~~~~~");
        digestIs(Texts.ring("dswc;25"), "");
        digestIs(Texts.ring("pp;00"), "");
        RingOfThirds x = Texts.ring("cs;37");
        x.pass(1);
        Texts.type(x, "pcswd;37~~");
        digestIs(x, "pcswd;37~~");
    }

    /** The sum without a limit, then its rest as a long. */
    private static void digestIs(RingOfThirds x, String page) {
        BigInteger h = BigInteger.valueOf(887);
        for (long number : Digests.numbersOf(x, page)) {
            h = h.multiply(BigInteger.valueOf(31)).add(BigInteger.valueOf(number));
        }
        String where = x.count(0) + " PEOPLE and '" + page + "'";
        due.holds("the sum of " + where + " goes beyond longs", h.abs().bitLength() > 63);
        due.of(where, x, h.longValue(), "digest");
    }
}
