import java.math.BigInteger;
import java.util.ArrayList;
import java.util.List;
import java.util.regex.Matcher;
import java.util.regex.Pattern;

/**
 * The document played in another way than the class does it: a log of what happened in place of a state,
 * and every ROW tried in place of sums by place.
 */
final class Model {
    private static final int NONE = -1, UNKNOWN = -101, OUTSIDE = -102, STATE = -103, FULL = -104;
    private static final Pattern RING = Pattern.compile("[pcswd]{2,4};[0-3][0-7]");

    /** What happened: who passed it on with which MARKS to whom, or (to is NONE) who was PAID. */
    private record Event(int who, int marks, int to) {
    }

    private record Look(int passes, int sort, int value) {
    }

    private String page = "";
    private String kinds = "";
    private int firstMarks = 0;
    private List<Event> log = new ArrayList<>();
    private List<Look> looks = new ArrayList<>();
    private List<Event> keptLog = null;
    private List<Look> keptLooks = null;
    private int ringsRead = 0;

    int letter(int code) {
        if (code < 1 || code > 126) return OUTSIDE;
        if (page.length() == 10) return FULL;
        page += (char) code;
        return page.length();
    }

    int blank() {
        int had = page.length();
        page = "";
        return had;
    }

    int fault() {
        for (int i = 1; i <= page.length(); i++) {
            Matcher matcher = RING.matcher(page.substring(0, i));
            if (!matcher.matches() && !matcher.hitEnd()) return i - 1;
        }
        return page.length();
    }

    int ring() {
        if (!RING.matcher(page).matches()) return STATE;
        String[] parts = page.split(";");
        kinds = parts[0];
        firstMarks = Integer.parseInt(parts[1], 8);
        log = new ArrayList<>();
        looks = new ArrayList<>();
        keptLog = null;
        keptLooks = null;
        ringsRead++;
        page = "";
        return kinds.length();
    }

    int about(int person, int what) {
        if (isNobody(person)) return UNKNOWN;
        switch (what) {
            case 0: return "pcswd".indexOf(kinds.charAt(person));
            case 1: return holder(log) == person ? 1 : 0;
            case 2: return memory(log, person);
            case 3: return isWrong(log, person) ? 1 : 0;
            case 4: return paid(log, person);
            case 5: return holder(log) == person ? NONE : marks(passed(log, person));
            case 6: return holder(log) == person ? NONE : wrong(passed(log, person));
            default: return OUTSIDE;
        }
    }

    int as(int person, int kind) {
        if (isNobody(person)) return UNKNOWN;
        if (kind < 0 || kind > 4) return OUTSIDE;
        String of = new String[] {"pcswd", "cd", "s", "w", "d"}[kind];
        return of.indexOf(kinds.charAt(person)) >= 0 ? person : NONE;
    }

    int pass(int person) {
        if (isNobody(person)) return UNKNOWN;
        if (holder(log) == person) return STATE;
        log = passed(log, person);
        return marks(log);
    }

    int claim(int person) {
        if (isNobody(person)) return UNKNOWN;
        List<Event> then = claimed(log, person);
        boolean isPaid = then.size() > log.size();
        log = then;
        return isPaid ? 1 : 0;
    }

    int chain(int person, int marks, int what) {
        if (isNobody(person)) return UNKNOWN;
        if (marks < 0 || marks > 31 || what < 0 || what > 1) return OUTSIDE;
        int few = fewest(holder(log), marks(log), person, marks);
        if (what == 0) return few;
        if (few <= 0) return NONE;
        for (int first = 0; first < kinds.length(); first++) {
            if (first == holder(log)) continue;
            if (fewest(first, touched(first, marks(log)), person, marks) == few - 1) return first;
        }
        return NONE;
    }

    private int fewest(int holder, int marks, int wantedHolder, int wantedMarks) {
        boolean[][] can = new boolean[kinds.length()][32];
        can[holder][marks] = true;
        for (int passes = 0; passes <= 128; passes++) {
            if (can[wantedHolder][wantedMarks]) return passes;
            boolean[][] then = new boolean[kinds.length()][32];
            for (int from = 0; from < kinds.length(); from++) {
                for (int with = 0; with < 32; with++) {
                    for (int to = 0; to < kinds.length() && can[from][with]; to++) {
                        if (to != from) then[to][touched(to, with)] = true;
                    }
                }
            }
            can = then;
        }
        return NONE;
    }

    int calm(int passes, int what) {
        if (passes < 1 || passes > 4 || !(what == 0 || what >= 10 && what <= 13)) return OUTSIDE;
        if (kinds.isEmpty()) return STATE;
        List<Event> best = null;
        for (List<Event> row : rowsOf(log, passes)) {
            if (best == null || wrong(row) < wrong(best)) best = row;
        }
        if (what == 0) return wrong(best);
        return what - 10 < passes ? best.get(log.size() + what - 10).to : NONE;
    }

    int look(int passes, int sort, int value) {
        if (passes < 0 || passes > 8 || sort < 0 || sort > 2) return OUTSIDE;
        int values = new int[] {4, 8, kinds.length()}[sort];
        if (value < 0 || value >= values) return OUTSIDE;
        if (kinds.isEmpty()) return STATE;
        if (looks.size() == 8) return FULL;
        looks.add(new Look(passes, sort, value));
        return looks.size();
    }

    int forget() {
        int had = looks.size();
        looks = new ArrayList<>();
        return had;
    }

    int rows(int passes, int what) {
        if (passes < 0 || passes > 8 || what < 0 || what > 1) return OUTSIDE;
        if (kinds.isEmpty()) return STATE;
        List<int[]> ends = fittingEnds(passes);
        if (what == 0) return ends.size();
        int bits = 0;
        for (int[] end : ends) bits |= 1 << end[0];
        return bits;
    }

    int lookNext(int passes) {
        if (passes < 0 || passes > 8) return OUTSIDE;
        if (kinds.isEmpty()) return STATE;
        List<int[]> ends = fittingEnds(passes);
        int best = NONE;
        int fewest = Integer.MAX_VALUE;
        for (int sort = 0; sort < 3 && !ends.isEmpty(); sort++) {
            int worst = 0;
            for (int value = 0; value < 8; value++) {
                int left = 0;
                for (int[] end : ends) {
                    if (seen(end, sort) == value) left++;
                }
                worst = Math.max(worst, left);
            }
            if (worst < fewest) {
                fewest = worst;
                best = sort;
            }
        }
        return best;
    }

    int seasons(int times, int seed, int what) {
        if (times < 1 || times > 60 || seed < 0 || what < 0 || what > 2) return OUTSIDE;
        if (kinds.isEmpty()) return STATE;
        BigInteger then = BigInteger.valueOf(seed);
        List<Event> played = log;
        int before = paidInAll(log);
        for (int i = 0; i < times; i++) {
            then = then.multiply(BigInteger.valueOf(1103515245)).add(BigInteger.valueOf(12345)).mod(BigInteger.TWO.pow(31));
            int drawn = then.divide(BigInteger.valueOf(65536)).mod(BigInteger.valueOf(kinds.length())).intValue();
            if (drawn != holder(played)) played = passed(played, drawn);
            for (int person = 0; person < kinds.length(); person++) played = claimed(played, person);
        }
        return new int[] {paidInAll(played) - before, marks(played), then.intValueExact()}[what];
    }

    int image() {
        if (kinds.isEmpty()) return STATE;
        keptLog = new ArrayList<>(log);
        keptLooks = new ArrayList<>(looks);
        return passes(log);
    }

    int restore() {
        if (keptLog == null) return STATE;
        log = new ArrayList<>(keptLog);
        looks = new ArrayList<>(keptLooks);
        return passes(log);
    }

    int count(int what) {
        switch (what) {
            case 0: return kinds.length();
            case 1: return kinds.isEmpty() ? NONE : holder(log);
            case 2: return marks(log) / 8;
            case 3: return marks(log) % 8;
            case 4: return passes(log);
            case 5: return wrong(log);
            case 6: return paidInAll(log);
            case 7: return looks.size();
            case 8: return page.length();
            case 9: return ringsRead;
            default: return OUTSIDE;
        }
    }

    long digest() {
        long h = 887;
        for (int person = 0; person < kinds.length(); person++) {
            for (int what = 0; what <= 6; what++) h = 31 * h + about(person, what);
        }
        for (int person = 0; person < kinds.length(); person++) h = 31 * h + chain(person, marks(log), 0);
        if (!kinds.isEmpty()) {
            h = 31 * (31 * (31 * h + calm(2, 0)) + calm(2, 10)) + calm(2, 11);
            for (int passes = 0; passes <= 4; passes++) h = 31 * (31 * h + rows(passes, 0)) + rows(passes, 1);
            h = 31 * h + lookNext(3);
        }
        for (char letter : page.toCharArray()) h = 31 * h + letter;
        for (int what = 0; what <= 9; what++) h = 31 * h + count(what);
        return h;
    }

    private boolean isNobody(int person) {
        return person < 0 || person >= kinds.length();
    }

    private int touched(int person, int marks) {
        int stone = marks / 8;
        int word = marks % 8;
        switch (kinds.charAt(person)) {
            case 'c': return 8 * ((stone + 1) % 4) + word;
            case 's': return 8 * stone + (3 * word + person + 1) % 8;
            case 'w': return 8 * stone;
            case 'd': return 8 * ((stone + 1) % 4) + 7 - word;
            default: return marks;
        }
    }

    private int holder(List<Event> events) {
        int holder = 0;
        for (Event event : events) holder = event.to == NONE ? holder : event.to;
        return holder;
    }

    private int marks(List<Event> events) {
        int marks = firstMarks;
        for (Event event : events) marks = event.to == NONE ? marks : touched(event.to, marks);
        return marks;
    }

    private static int passes(List<Event> events) {
        int passes = 0;
        for (Event event : events) passes += event.to == NONE ? 0 : 1;
        return passes;
    }

    private static int memory(List<Event> events, int person) {
        int memory = NONE;
        for (Event event : events) {
            if (event.to != NONE && event.who == person) memory = event.marks;
        }
        return memory;
    }

    private static int paid(List<Event> events, int person) {
        int paid = 0;
        for (Event event : events) paid += event.to == NONE && event.who == person ? 1 : 0;
        return paid;
    }

    private static int paidInAll(List<Event> events) {
        return events.size() - passes(events);
    }

    private boolean isWrong(List<Event> events, int person) {
        int memory = memory(events, person);
        return memory != NONE && holder(events) != person && memory != marks(events);
    }

    private int wrong(List<Event> events) {
        int wrong = 0;
        for (int person = 0; person < kinds.length(); person++) wrong += isWrong(events, person) ? 1 : 0;
        return wrong;
    }

    private List<Event> passed(List<Event> events, int person) {
        List<Event> then = new ArrayList<>(events);
        then.add(new Event(holder(events), marks(events), person));
        return then;
    }

    private List<Event> claimed(List<Event> events, int person) {
        boolean isPaidSince = false;
        for (Event event : events) {
            if (event.who == person) isPaidSince = event.to == NONE;
        }
        if (isPaidSince || !isWrong(events, person)) return events;
        List<Event> then = new ArrayList<>(events);
        then.add(new Event(person, 0, NONE));
        return then;
    }

    private List<List<Event>> rowsOf(List<Event> events, int passes) {
        List<List<Event>> rows = new ArrayList<>();
        if (passes == 0) {
            rows.add(events);
            return rows;
        }
        for (int person = 0; person < kinds.length(); person++) {
            if (person != holder(events)) rows.addAll(rowsOf(passed(events, person), passes - 1));
        }
        return rows;
    }

    /** Who has it and its MARKS behind each fitting ROW, by trying each ROW to its end. */
    private List<int[]> fittingEnds(int passes) {
        List<int[]> ends = new ArrayList<>();
        tryRows(new int[] {holder(log), marks(log)}, 0, passes, ends);
        return ends;
    }

    private void tryRows(int[] at, int gone, int passes, List<int[]> ends) {
        for (Look look : looks) {
            if (look.passes == gone && seen(at, look.sort) != look.value) return;
        }
        if (gone == passes) {
            ends.add(at);
            return;
        }
        for (int person = 0; person < kinds.length(); person++) {
            if (person != at[0]) tryRows(new int[] {person, touched(person, at[1])}, gone + 1, passes, ends);
        }
    }

    private static int seen(int[] at, int sort) {
        return sort == 0 ? at[1] / 8 : sort == 1 ? at[1] % 8 : at[0];
    }
}
