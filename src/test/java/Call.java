import java.util.Arrays;
import java.util.stream.Collectors;

/** A call of the public face, told as data: so that a test's line names just what it calls. */
record Call(String name, int... with) {
    long on(RingOfThirds x) {
        switch (name) {
            case "letter": return x.letter(with[0]);
            case "blank": return x.blank();
            case "fault": return x.fault();
            case "ring": return x.ring();
            case "about": return x.about(with[0], with[1]);
            case "as": return x.as(with[0], with[1]);
            case "pass": return x.pass(with[0]);
            case "claim": return x.claim(with[0]);
            case "chain": return x.chain(with[0], with[1], with[2]);
            case "calm": return x.calm(with[0], with[1]);
            case "look": return x.look(with[0], with[1], with[2]);
            case "forget": return x.forget();
            case "rows": return x.rows(with[0], with[1]);
            case "lookNext": return x.lookNext(with[0]);
            case "seasons": return x.seasons(with[0], with[1], with[2]);
            case "image": return x.image();
            case "restore": return x.restore();
            case "count": return x.count(with[0]);
            case "digest": return x.digest();
            default: throw new IllegalArgumentException(name);
        }
    }

    @Override
    public String toString() {
        return name + Arrays.stream(with).mapToObj(String::valueOf).collect(Collectors.joining(", ", "(", ")"));
    }
}
