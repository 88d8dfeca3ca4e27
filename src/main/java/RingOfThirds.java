import java.util.Arrays;

/** A ring that is worn by turns: who has it, who believes what of it, who claims, and what could come of it. */
public final class RingOfThirds {
    public static final int NONE = -1, UNKNOWN = -101, OUTSIDE = -102, STATE = -103, FULL = -104;

    private static final int PERSON = 0, CUTTER = 1, SCRATCHER = 2, WASHER = 3, DENTIST = 4;
    private static final int SORT_STONE = 0, SORT_WORD = 1, SORT_HOLDER = 2, SORTS = 3;

    private static final int LEAST_PEOPLE = 2, MOST_PEOPLE = 4;
    private static final int STONES = 4, WORDS = 8, MARKS = STONES * WORDS;
    /** A PLACE is one number for who has the ring and its MARKS. */
    private static final int PLACES = MOST_PEOPLE * MARKS;

    private static final int MOST_LETTERS = 10, LAST_CODE = 126;
    /** Behind the letters of the PEOPLE come ';', STONE and WORD. */
    private static final int RING_TAIL = 3;
    private static final int MOST_LOOKS = 8, MOST_LOOK_PASSES = 8;
    private static final int MOST_CALM_PASSES = 4, MOST_CALM_ROWS = 256;
    private static final int CALM_FIRST_PASS = 10;
    private static final int MOST_SEASONS = 60;
    private static final int ABOUTS = 7, COUNTS = 10;
    private static final long DRAW_FACTOR = 1103515245L, DRAW_ADDEND = 12345L;
    private static final long SEED_LIMIT = 2147483648L, DRAW_SHARE = 65536L;
    private static final long DIGEST_START = 887L, DIGEST_FACTOR = 31L;

    private final Page page = new Page();
    private final People people = new People();
    private final Story now = new Story();
    private final Story kept = new Story();
    private final Story trial = new Story();
    private final Looks looks = new Looks();
    private final Looks keptLooks = new Looks();
    private final Chains chains = new Chains();
    private final Ways ways = new Ways();
    private final int[] triedRow = new int[MOST_CALM_PASSES];
    private final int[] calmRow = new int[MOST_CALM_PASSES];
    private int calmWrong = NONE;
    private boolean imageKept = false;
    private int ringsRead = 0;

    public RingOfThirds() {
    }

    // ---- the ring

    public int letter(int code) {
        if (code < 1 || code > LAST_CODE) return OUTSIDE;
        return page.add(code) ? page.length : FULL;
    }

    public int blank() {
        int had = page.length;
        page.clear();
        return had;
    }

    public int fault() {
        return page.faultPlace();
    }

    public int ring() {
        if (!page.isRing()) return STATE;
        int tail = page.leadingPeople();
        people.clear();
        for (int i = 0; i < tail; i++) people.join(page.at(i));
        now.begin(WORDS * (page.at(tail + 1) - '0') + page.at(tail + 2) - '0');
        looks.clear();
        imageKept = false;
        ringsRead++;
        page.clear();
        return people.size;
    }

    public int about(int person, int what) {
        if (!people.has(person)) return UNKNOWN;
        switch (what) {
            case 0: return people.kindOf(person);
            case 1: return now.holder == person ? 1 : 0;
            case 2: return now.memoryOf(person);
            case 3: return now.isWrong(person) ? 1 : 0;
            case 4: return now.timesPaid(person);
            case 5: return marksIfPassed(person);
            case 6: return wrongIfPassed(person);
            default: return OUTSIDE;
        }
    }

    public int as(int person, int kind) {
        if (!people.has(person)) return UNKNOWN;
        if (kind < PERSON || kind > DENTIST) return OUTSIDE;
        return people.isA(person, kind) ? person : NONE;
    }

    public int pass(int person) {
        if (!people.has(person)) return UNKNOWN;
        if (now.holder == person) return STATE;
        handOver(now, person);
        return now.marks;
    }

    public int claim(int person) {
        if (!people.has(person)) return UNKNOWN;
        return now.payIfDue(person) ? 1 : 0;
    }

    // ---- what would be

    public int chain(int person, int marks, int what) {
        if (!people.has(person)) return UNKNOWN;
        if (marks < 0 || marks >= MARKS || what < 0 || what > 1) return OUTSIDE;
        chains.measure(people, placeOf(now.holder, now.marks));
        int place = placeOf(person, marks);
        return what == 0 ? chains.passesTo(place) : chains.firstPassTo(place);
    }

    public int calm(int passes, int what) {
        if (passes < 1 || passes > MOST_CALM_PASSES) return OUTSIDE;
        int turn = what - CALM_FIRST_PASS;
        boolean asksForPass = what >= CALM_FIRST_PASS && turn < MOST_CALM_PASSES;
        if (what != 0 && !asksForPass) return OUTSIDE;
        if (people.size == 0) return STATE;
        if (asksForPass && turn >= passes) return NONE;
        findCalm(passes);
        return asksForPass ? calmRow[turn] : calmWrong;
    }

    // ---- looks

    public int look(int passes, int sort, int value) {
        if (passes < 0 || passes > MOST_LOOK_PASSES) return OUTSIDE;
        if (sort < 0 || sort >= SORTS) return OUTSIDE;
        if (value < 0 || value >= valuesOf(sort)) return OUTSIDE;
        if (people.size == 0) return STATE;
        return looks.add(passes, sort, value) ? looks.size : FULL;
    }

    public int forget() {
        int had = looks.size;
        looks.clear();
        return had;
    }

    public int rows(int passes, int what) {
        if (passes < 0 || passes > MOST_LOOK_PASSES || what < 0 || what > 1) return OUTSIDE;
        if (people.size == 0) return STATE;
        ways.spread(people, looks, placeOf(now.holder, now.marks), passes);
        return what == 0 ? ways.total() : ways.holders();
    }

    public int lookNext(int passes) {
        if (passes < 0 || passes > MOST_LOOK_PASSES) return OUTSIDE;
        if (people.size == 0) return STATE;
        ways.spread(people, looks, placeOf(now.holder, now.marks), passes);
        return ways.tellingSort();
    }

    public int seasons(int times, int seed, int what) {
        if (times < 1 || times > MOST_SEASONS || seed < 0 || what < 0 || what > 2) return OUTSIDE;
        if (people.size == 0) return STATE;
        int seedThen = playSeasons(times, seed);
        if (what == 0) return trial.paidInAll() - now.paidInAll();
        return what == 1 ? trial.marks : seedThen;
    }

    // ---- what is told of all

    public int image() {
        if (people.size == 0) return STATE;
        kept.copyFrom(now);
        keptLooks.copyFrom(looks);
        imageKept = true;
        return now.passes;
    }

    public int restore() {
        if (!imageKept) return STATE;
        now.copyFrom(kept);
        looks.copyFrom(keptLooks);
        return now.passes;
    }

    public int count(int what) {
        switch (what) {
            case 0: return people.size;
            case 1: return now.holder;
            case 2: return now.marks / WORDS;
            case 3: return now.marks % WORDS;
            case 4: return now.passes;
            case 5: return now.wrongPeople();
            case 6: return now.paidInAll();
            case 7: return looks.size;
            case 8: return page.length;
            case 9: return ringsRead;
            default: return OUTSIDE;
        }
    }

    public long digest() {
        long h = DIGEST_START;
        for (int person = 0; person < people.size; person++) {
            for (int what = 0; what < ABOUTS; what++) h = mixed(h, about(person, what));
        }
        if (people.size > 0) {
            for (int person = 0; person < people.size; person++) h = mixed(h, chain(person, now.marks, 0));
            h = mixed(h, calm(2, 0));
            h = mixed(h, calm(2, CALM_FIRST_PASS));
            h = mixed(h, calm(2, CALM_FIRST_PASS + 1));
            for (int passes = 0; passes <= 4; passes++) {
                h = mixed(h, rows(passes, 0));
                h = mixed(h, rows(passes, 1));
            }
            h = mixed(h, lookNext(3));
        }
        for (int i = 0; i < page.length; i++) h = mixed(h, page.at(i));
        for (int what = 0; what < COUNTS; what++) h = mixed(h, count(what));
        return h;
    }

    private static long mixed(long h, long number) {
        return DIGEST_FACTOR * h + number;
    }

    private void handOver(Story story, int person) {
        story.moveTo(person, people.touched(person, story.marks));
    }

    private int marksIfPassed(int person) {
        return now.holder == person ? NONE : people.touched(person, now.marks);
    }

    private int wrongIfPassed(int person) {
        if (now.holder == person) return NONE;
        trial.copyFrom(now);
        handOver(trial, person);
        return trial.wrongPeople();
    }

    /** Tries the rows by numbers and keeps only a better one, so that of like ones the first stays. */
    private void findCalm(int passes) {
        calmWrong = NONE;
        Arrays.fill(triedRow, 0);
        for (int row = 0; row < MOST_CALM_ROWS; row++) {
            if (playTriedRow(passes)) keepIfCalmer();
            if (!turnToNextRow(passes)) return;
        }
    }

    /** Whether the tried row can be: a PASS goes to another one, never to who has it. */
    private boolean playTriedRow(int passes) {
        trial.copyFrom(now);
        for (int turn = 0; turn < passes && turn < MOST_CALM_PASSES; turn++) {
            int person = triedRow[turn];
            if (trial.holder == person) return false;
            trial.moveTo(person, people.touched(person, trial.marks));
        }
        return true;
    }

    private void keepIfCalmer() {
        int wrong = trial.wrongPeople();
        if (calmWrong != NONE && wrong >= calmWrong) return;
        calmWrong = wrong;
        for (int turn = 0; turn < MOST_CALM_PASSES; turn++) calmRow[turn] = triedRow[turn];
    }

    private boolean turnToNextRow(int passes) {
        for (int turn = Math.min(passes, MOST_CALM_PASSES) - 1; turn >= 0; turn--) {
            triedRow[turn]++;
            if (triedRow[turn] < people.size) return true;
            triedRow[turn] = 0;
        }
        return false;
    }

    private int valuesOf(int sort) {
        if (sort == SORT_STONE) return STONES;
        return sort == SORT_WORD ? WORDS : people.size;
    }

    /** Plays on the trial alone, as SEASONS tell what would be; answers the SEED then. */
    private int playSeasons(int times, int seed) {
        trial.copyFrom(now);
        long seedThen = seed;
        for (int i = 0; i < times; i++) {
            seedThen = (DRAW_FACTOR * seedThen + DRAW_ADDEND) % SEED_LIMIT;
            int drawn = drawnPerson(seedThen);
            if (drawn != trial.holder) handOver(trial, drawn);
            for (int person = 0; person < people.size; person++) trial.payIfDue(person);
        }
        return (int) seedThen;
    }

    private int drawnPerson(long seed) {
        return people.size > 0 ? (int) (seed / DRAW_SHARE % people.size) : 0;
    }

    private static int placeOf(int holder, int marks) {
        boolean told = holder >= 0 && holder < MOST_PEOPLE && marks >= 0 && marks < MARKS;
        return told ? MARKS * holder + marks : NONE;
    }

    private static int holderAt(int place) {
        return place / MARKS;
    }

    private static int marksAt(int place) {
        return place % MARKS;
    }

    /** What a LOOK of the SORT would tell of a PLACE. */
    private static int seenAt(int place, int sort) {
        if (sort == SORT_HOLDER) return holderAt(place);
        return sort == SORT_STONE ? marksAt(place) / WORDS : marksAt(place) % WORDS;
    }

    /** THE PAGE: letters that come to be read as THE RING. */
    private static final class Page {
        private final int[] letters = new int[MOST_LETTERS];
        private int length = 0;

        private boolean add(int code) {
            if (length >= MOST_LETTERS) return false;
            letters[length] = code;
            length++;
            return true;
        }

        private void clear() {
            length = 0;
        }

        private int at(int place) {
            return place >= 0 && place < length && place < MOST_LETTERS ? letters[place] : 0;
        }

        private int leadingPeople() {
            int told = 0;
            while (told < MOST_PEOPLE && People.isKindLetter(at(told))) told++;
            return told;
        }

        private int faultPlace() {
            int tail = leadingPeople();
            for (int place = tail; place < length; place++) {
                if (!fitsInTail(place, tail)) return place;
            }
            return length;
        }

        private boolean fitsInTail(int place, int tail) {
            int letter = at(place);
            switch (place - tail) {
                case 0: return tail >= LEAST_PEOPLE && letter == ';';
                case 1: return letter >= '0' && letter < '0' + STONES;
                case 2: return letter >= '0' && letter < '0' + WORDS;
                default: return false;
            }
        }

        private boolean isRing() {
            return length == leadingPeople() + RING_TAIL && faultPlace() == length;
        }
    }

    /** One of PEOPLE; who is nothing else does nothing to the ring. */
    private static class Person {
        int kind() {
            return PERSON;
        }

        int touched(int marks) {
            return marks;
        }
    }

    private static class Cutter extends Person {
        int kind() {
            return CUTTER;
        }

        int touched(int marks) {
            return (marks + WORDS) % MARKS;
        }
    }

    /** A CUTTER, too: her work on STONE is the CUTTER's own. */
    private static final class Dentist extends Cutter {
        int kind() {
            return DENTIST;
        }

        int touched(int marks) {
            int cut = super.touched(marks);
            return cut - cut % WORDS + (WORDS - 1 - cut % WORDS);
        }
    }

    private static final class Scratcher extends Person {
        private final int number;

        private Scratcher(int number) {
            this.number = number;
        }

        int kind() {
            return SCRATCHER;
        }

        int touched(int marks) {
            int word = marks % WORDS;
            return marks - word + (3 * word + number + 1) % WORDS;
        }
    }

    private static final class Washer extends Person {
        int kind() {
            return WASHER;
        }

        int touched(int marks) {
            return marks - marks % WORDS;
        }
    }

    /** The PEOPLE of THE RING, by number. */
    private static final class People {
        private final Person[] members = new Person[MOST_PEOPLE];
        private int size = 0;

        private static boolean isKindLetter(int letter) {
            return letter == 'p' || letter == 'c' || letter == 's' || letter == 'w' || letter == 'd';
        }

        private static Person personOf(int letter, int number) {
            switch (letter) {
                case 'c': return new Cutter();
                case 's': return new Scratcher(number);
                case 'w': return new Washer();
                case 'd': return new Dentist();
                default: return new Person();
            }
        }

        private void clear() {
            size = 0;
        }

        private void join(int letter) {
            if (size >= MOST_PEOPLE) return;
            members[size] = personOf(letter, size);
            size++;
        }

        private boolean has(int person) {
            return person >= 0 && person < size;
        }

        private Person memberAt(int person) {
            return person >= 0 && person < size && person < MOST_PEOPLE ? members[person] : null;
        }

        private int kindOf(int person) {
            Person member = memberAt(person);
            return member == null ? NONE : member.kind();
        }

        private boolean isA(int person, int kind) {
            Person member = memberAt(person);
            switch (kind) {
                case PERSON: return member != null;
                case CUTTER: return member instanceof Cutter;
                case SCRATCHER: return member instanceof Scratcher;
                case WASHER: return member instanceof Washer;
                case DENTIST: return member instanceof Dentist;
                default: return false;
            }
        }

        private int touched(int person, int marks) {
            Person member = memberAt(person);
            return member == null ? marks : member.touched(marks);
        }
    }

    /** Who has the ring, its MARKS, and what each remembers and was PAID: all that a PASS or a CLAIM changes. */
    private static final class Story {
        private int holder = NONE;
        private int marks = 0;
        private int passes = 0;
        private final int[] memories = new int[MOST_PEOPLE];
        private final int[] paid = new int[MOST_PEOPLE];
        private final boolean[] paidSince = new boolean[MOST_PEOPLE];

        private void begin(int firstMarks) {
            holder = 0;
            marks = firstMarks;
            passes = 0;
            for (int i = 0; i < MOST_PEOPLE; i++) {
                memories[i] = NONE;
                paid[i] = 0;
                paidSince[i] = false;
            }
        }

        private void copyFrom(Story other) {
            holder = other.holder;
            marks = other.marks;
            passes = other.passes;
            for (int i = 0; i < MOST_PEOPLE; i++) {
                memories[i] = other.memories[i];
                paid[i] = other.paid[i];
                paidSince[i] = other.paidSince[i];
            }
        }

        private static boolean isNumber(int person) {
            return person >= 0 && person < MOST_PEOPLE;
        }

        private void moveTo(int person, int newMarks) {
            if (isNumber(holder)) {
                memories[holder] = marks;
                paidSince[holder] = false;
            }
            holder = person;
            marks = newMarks;
            passes++;
        }

        private int memoryOf(int person) {
            return isNumber(person) ? memories[person] : NONE;
        }

        private int timesPaid(int person) {
            return isNumber(person) ? paid[person] : 0;
        }

        private boolean isWrong(int person) {
            int memory = memoryOf(person);
            return memory != NONE && holder != NONE && holder != person && memory != marks;
        }

        private boolean payIfDue(int person) {
            if (!isNumber(person) || !isWrong(person) || paidSince[person]) return false;
            paidSince[person] = true;
            paid[person]++;
            return true;
        }

        private int wrongPeople() {
            int wrong = 0;
            for (int i = 0; i < MOST_PEOPLE; i++) {
                if (isWrong(i)) wrong++;
            }
            return wrong;
        }

        private int paidInAll() {
            int sum = 0;
            for (int i = 0; i < MOST_PEOPLE; i++) sum += paid[i];
            return sum;
        }
    }

    /** LOOKS as they were told. */
    private static final class Looks {
        private final int[] passes = new int[MOST_LOOKS];
        private final int[] sorts = new int[MOST_LOOKS];
        private final int[] values = new int[MOST_LOOKS];
        private int size = 0;

        private boolean add(int ofPasses, int sort, int value) {
            if (size >= MOST_LOOKS) return false;
            passes[size] = ofPasses;
            sorts[size] = sort;
            values[size] = value;
            size++;
            return true;
        }

        private void clear() {
            size = 0;
        }

        private void copyFrom(Looks other) {
            size = other.size;
            for (int i = 0; i < MOST_LOOKS; i++) {
                passes[i] = other.passes[i];
                sorts[i] = other.sorts[i];
                values[i] = other.values[i];
            }
        }

        /** Whether all LOOKS that tell of just so many PASSES are so of a PLACE. */
        private boolean fit(int ofPasses, int place) {
            for (int i = 0; i < size && i < MOST_LOOKS; i++) {
                if (passes[i] == ofPasses && seenAt(place, sorts[i]) != values[i]) return false;
            }
            return true;
        }
    }

    /** CHAINS: by how few PASSES each PLACE can be come to, and by which first one. */
    private static final class Chains {
        private final int[] passes = new int[PLACES];
        private final int[] firstPass = new int[PLACES];
        private final int[] queue = new int[PLACES];
        private int queued = 0;

        private int passesTo(int place) {
            return place >= 0 && place < PLACES ? passes[place] : NONE;
        }

        private int firstPassTo(int place) {
            return place >= 0 && place < PLACES ? firstPass[place] : NONE;
        }

        private void measure(People people, int start) {
            Arrays.fill(passes, NONE);
            Arrays.fill(firstPass, NONE);
            queued = 0;
            reach(start, 0, NONE);
            for (int next = 0; next < queued && next < PLACES; next++) reachFrom(queue[next], people);
        }

        /** The queue goes by numbers, so who comes to a PLACE first comes by the least first PASS. */
        private void reachFrom(int place, People people) {
            int further = passesTo(place) + 1;
            for (int person = 0; person < people.size; person++) {
                if (person == holderAt(place)) continue;
                int first = further == 1 ? person : firstPassTo(place);
                reach(placeOf(person, people.touched(person, marksAt(place))), further, first);
            }
        }

        private void reach(int place, int byPasses, int first) {
            if (place < 0 || place >= PLACES || passes[place] != NONE || queued >= PLACES) return;
            passes[place] = byPasses;
            firstPass[place] = first;
            queue[queued] = place;
            queued++;
        }
    }

    /** ROWS, told together by the PLACE that they end at: in how many ways each PLACE can be come to. */
    private static final class Ways {
        private final int[] waysTo = new int[PLACES];
        private final int[] waysBefore = new int[PLACES];
        private final int[] waysBySight = new int[WORDS];

        private void spread(People people, Looks looks, int start, int passes) {
            Arrays.fill(waysTo, 0);
            if (start >= 0 && start < PLACES) waysTo[start] = 1;
            keepFitting(looks, 0);
            for (int step = 1; step <= passes; step++) {
                passOn(people);
                keepFitting(looks, step);
            }
        }

        private void passOn(People people) {
            for (int place = 0; place < PLACES; place++) {
                waysBefore[place] = waysTo[place];
                waysTo[place] = 0;
            }
            for (int place = 0; place < PLACES; place++) {
                if (waysBefore[place] == 0) continue;
                for (int person = 0; person < people.size; person++) {
                    if (person == holderAt(place)) continue;
                    int to = placeOf(person, people.touched(person, marksAt(place)));
                    if (to >= 0 && to < PLACES) waysTo[to] += waysBefore[place];
                }
            }
        }

        private void keepFitting(Looks looks, int ofPasses) {
            for (int place = 0; place < PLACES; place++) {
                if (waysTo[place] > 0 && !looks.fit(ofPasses, place)) waysTo[place] = 0;
            }
        }

        private int total() {
            int sum = 0;
            for (int place = 0; place < PLACES; place++) sum += waysTo[place];
            return sum;
        }

        private int holders() {
            int bits = 0;
            for (int place = 0; place < PLACES; place++) {
                if (waysTo[place] > 0) bits |= 1 << holderAt(place);
            }
            return bits;
        }

        /** LOOK NEXT: the least SORT that leaves fewest ROWS at worst. */
        private int tellingSort() {
            if (total() == 0) return NONE;
            int best = 0;
            for (int sort = 1; sort < SORTS; sort++) {
                if (mostLeftBy(sort) < mostLeftBy(best)) best = sort;
            }
            return best;
        }

        private int mostLeftBy(int sort) {
            Arrays.fill(waysBySight, 0);
            int most = 0;
            for (int place = 0; place < PLACES; place++) {
                int seen = seenAt(place, sort);
                if (seen < 0 || seen >= WORDS) continue;
                waysBySight[seen] += waysTo[place];
                most = Math.max(most, waysBySight[seen]);
            }
            return most;
        }
    }
}
