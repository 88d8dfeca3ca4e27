import java.util.ArrayList;
import java.util.List;

/** The numbers of the digest, in the order that the document tells, by what the other calls answer. */
final class Digests {
    private Digests() {
    }

    static List<Long> numbersOf(RingOfThirds x, String page) {
        List<Long> numbers = new ArrayList<>();
        int people = x.count(0);
        for (int person = 0; person < people; person++) {
            for (int what = 0; what <= 6; what++) numbers.add((long) x.about(person, what));
        }
        if (people > 0) addWhatWouldBe(numbers, x, people);
        for (int i = 0; i < page.length(); i++) numbers.add((long) page.charAt(i));
        for (int what = 0; what <= 9; what++) numbers.add((long) x.count(what));
        return numbers;
    }

    private static void addWhatWouldBe(List<Long> numbers, RingOfThirds x, int people) {
        int marks = 8 * x.count(2) + x.count(3);
        for (int person = 0; person < people; person++) numbers.add((long) x.chain(person, marks, 0));
        for (int what : new int[] {0, 10, 11}) numbers.add((long) x.calm(2, what));
        for (int passes = 0; passes <= 4; passes++) {
            numbers.add((long) x.rows(passes, 0));
            numbers.add((long) x.rows(passes, 1));
        }
        numbers.add((long) x.lookNext(3));
    }

    static long sumOf(RingOfThirds x, String page) {
        long h = 887;
        for (long number : numbersOf(x, page)) h = 31 * h + number;
        return h;
    }
}
