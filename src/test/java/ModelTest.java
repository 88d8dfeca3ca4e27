import java.util.Random;

/** Promises 1 to 20 again: runs of calls, the same each time, answered as by the model. */
public final class ModelTest {
    private static final Due due = new Due("ModelTest");
    private static final int RUNS = 400, CALLS = 512;
    private static final int[] EDGES = {-1, Integer.MIN_VALUE, Integer.MAX_VALUE, 9, 32, 61, 127};

    private final Random random;
    private final RingOfThirds ring = new RingOfThirds();
    private final Model model = new Model();
    private final int run;
    private int calls = 0;

    private ModelTest(int run) {
        this.run = run;
        this.random = new Random(run);
    }

    public static void main(String[] args) {
        for (int run = 0; run < RUNS; run++) {
            ModelTest test = new ModelTest(run);
            while (test.calls < CALLS) test.step();
        }
        due.end();
    }

    private void step() {
        int dice = random.nextInt(100);
        if (dice < 2) typeRing();
        else if (dice < 4) call(random.nextInt(5));
        else if (dice < 20) same("pass", person());
        else if (dice < 34) same("claim", person());
        else call(random.nextInt(18));
    }

    private int upTo(int last) {
        return random.nextInt(12) == 0 ? EDGES[random.nextInt(EDGES.length)] : random.nextInt(last + 1);
    }

    private int person() {
        return upTo(random.nextInt(4) == 0 ? 4 : Math.max(0, model.count(0) - 1));
    }

    /** Mostly a RING; else one with a letter that may be wrong, or one too many. */
    private void typeRing() {
        StringBuilder text = new StringBuilder();
        int people = 2 + random.nextInt(3);
        for (int i = 0; i < people; i++) text.append("pcswd".charAt(random.nextInt(5)));
        text.append(';').append(random.nextInt(4)).append(random.nextInt(8));
        if (random.nextInt(3) == 0) text.setCharAt(random.nextInt(text.length()), "pcswdx;0345789".charAt(random.nextInt(14)));
        if (random.nextInt(6) == 0) text.insert(random.nextInt(text.length()), "pcswdx;0345789".charAt(random.nextInt(14)));
        if (random.nextInt(4) > 0) same("blank");
        for (int i = 0; i < text.length(); i++) same("letter", text.charAt(i));
        same("fault");
        if (random.nextInt(5) > 0) same("ring");
    }

    private void call(int which) {
        switch (which) {
            case 0: same("letter", random.nextInt(3) == 0 ? upTo(127) : "pcswd;03478".charAt(random.nextInt(11))); break;
            case 1: if (random.nextInt(4) == 0) same("blank"); break;
            case 2: same("fault"); break;
            case 3: same("ring"); break;
            case 4: same("digest"); break;
            case 5: same("about", person(), upTo(6)); break;
            case 6: same("as", person(), upTo(4)); break;
            case 7: case 8: same("chain", person(), upTo(31), upTo(1)); break;
            case 9: same("calm", upTo(4), random.nextInt(3) == 0 ? upTo(14) : 10 * random.nextInt(2) + random.nextInt(4)); break;
            case 10: same("look", upTo(8), upTo(2), upTo(random.nextInt(3) == 0 ? 7 : 2)); break;
            case 11: if (random.nextInt(3) == 0) same("forget"); break;
            case 12: same("rows", upTo(8), upTo(1)); break;
            case 13: same("lookNext", upTo(8)); break;
            case 14: same("seasons", upTo(60), random.nextInt(2) == 0 ? upTo(1000) : random.nextInt(), upTo(2)); break;
            case 15: if (random.nextInt(2) == 0) same("image"); break;
            case 16: if (random.nextInt(2) == 0) same("restore"); break;
            default: same("count", upTo(9)); break;
        }
    }

    private void same(String name, int... with) {
        if (calls >= CALLS) return;
        calls++;
        due.of("run " + run + ", call " + calls, ring, ofModel(name, with), name, with);
    }

    private long ofModel(String name, int[] a) {
        switch (name) {
            case "letter": return model.letter(a[0]);
            case "blank": return model.blank();
            case "fault": return model.fault();
            case "ring": return model.ring();
            case "about": return model.about(a[0], a[1]);
            case "as": return model.as(a[0], a[1]);
            case "pass": return model.pass(a[0]);
            case "claim": return model.claim(a[0]);
            case "chain": return model.chain(a[0], a[1], a[2]);
            case "calm": return model.calm(a[0], a[1]);
            case "look": return model.look(a[0], a[1], a[2]);
            case "forget": return model.forget();
            case "rows": return model.rows(a[0], a[1]);
            case "lookNext": return model.lookNext(a[0]);
            case "seasons": return model.seasons(a[0], a[1], a[2]);
            case "image": return model.image();
            case "restore": return model.restore();
            case "count": return model.count(a[0]);
            default: return model.digest();
        }
    }
}
