import java.util.ArrayList;
import java.util.List;

/** Compares two objects by all that they tell, by what CLAIMS and PASSES then answer, and by their IMAGES. */
final class Alike {
    private final Due due;
    private final String where;
    private final RingOfThirds one;
    private final RingOfThirds other;

    private Alike(Due due, String where, RingOfThirds one, RingOfThirds other) {
        this.due = due;
        this.where = where;
        this.one = one;
        this.other = other;
    }

    /** Takes 290 calls of each of the two: so what they have gone through before stays below 222 (512 in all). */
    static void check(Due due, String where, RingOfThirds one, RingOfThirds other) {
        Alike alike = new Alike(due, where, one, other);
        alike.allTold("");
        alike.allClaims("");
        alike.same("restored ", new Call("restore"));
        alike.allTold("restored ");
        alike.allClaims("restored ");
        alike.same("", new Call("ring"));
    }

    private void allTold(String when) {
        for (Call call : tellingCalls(other.count(0))) same(when, call);
    }

    /** Whom a CLAIM was PAID is told by CLAIMS alone. */
    private void allClaims(String when) {
        for (int turn = 0; turn < 2; turn++) {
            for (int person = 0; person < 4; person++) same(when, new Call("claim", person));
            same(when, new Call("pass", turn));
        }
    }

    private void same(String when, Call call) {
        due.is(where + ", then " + when + call, call.on(one), call.on(other));
    }

    private static List<Call> tellingCalls(int people) {
        List<Call> calls = new ArrayList<>();
        calls.add(new Call("fault"));
        calls.add(new Call("digest"));
        for (int what = 0; what <= 9; what++) calls.add(new Call("count", what));
        for (int person = 0; person < people; person++) {
            for (int what = 0; what <= 6; what++) calls.add(new Call("about", person, what));
            for (int kind = 0; kind <= 4; kind++) calls.add(new Call("as", person, kind));
            for (int marks = 1; marks <= 31; marks += 6) calls.add(new Call("chain", person, marks, marks % 2));
        }
        for (int passes = 0; passes <= 8; passes++) {
            for (int what = 0; what <= 1; what++) calls.add(new Call("rows", passes, what));
            calls.add(new Call("lookNext", passes));
        }
        for (int passes = 1; passes <= 4; passes++) {
            calls.add(new Call("calm", passes, 0));
            for (int turn = 10; turn <= 13; turn++) calls.add(new Call("calm", passes, turn));
        }
        for (int what = 0; what <= 2; what++) calls.add(new Call("seasons", 9, 381, what));
        return calls;
    }
}
