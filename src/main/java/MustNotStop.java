import java.util.NoSuchElementException;

/** A bell that must not stop. Every row that a call needs is made with the object and used again. */
public final class MustNotStop {
    public static final int NONE = -1;

    private static final int MANY = 8;
    private static final int AT_ROPE = 3;
    private static final int TIREDEST = 99;
    private static final int STRONGEST_ROPE = 99;
    private static final int FAR = 999;
    private static final int TEXT_SIGNS = 80;
    private static final int ROLL_SIGNS = 23;
    private static final int RULE_SIGNS = 40;
    private static final int WATCH_SIGNS = 60;
    private static final int KEPT = 3;

    private final Text text = new Text();
    private final Row told = new Row();
    private final Tower tower = new Tower(new Roll(), new Roll(), new Law());
    private final Tower guess = new Tower(tower.crew, tower.people, tower.valid);
    private Law spare = new Law();
    private final Bell bell = new Bell();
    private final Bell trial = new Bell();
    private final Bell ahead = new Bell();
    private final Past past = new Past();
    private final Bell[] kept = new Bell[KEPT];
    private int keptNumbers = 0;
    private final Rotas rotas = new Rotas();
    private final Night night = new Night();

    public MustNotStop() {
        for (int i = 0; i < kept.length; i++) {
            kept[i] = new Bell();
        }
    }

    // ---- ringers, townspeople

    public int sign(int v) {
        if (text.many + 4 > TEXT_SIGNS) {
            return NONE;
        }
        for (int shift = 24; shift >= 0; shift -= 8) {
            text.add(v >>> shift & 255);
        }
        return text.many;
    }

    public boolean end(int n) {
        if (n < 0 || n > text.many) {
            return false;
        }
        text.many = n;
        return true;
    }

    public int ringers() {
        return enrol(tower.crew);
    }

    public int town() {
        return enrol(tower.people);
    }

    private int enrol(Roll roll) {
        int fault = roll.faultIn(text);
        int lines = fault >= 0 ? -1 - fault : roll.admit(text);
        text.many = 0;
        if (lines > 0) {
            past.clear();
            keptNumbers = 0;
        }
        return lines;
    }

    public int rule() {
        int fault = spare.read(text);
        text.many = 0;
        if (fault >= 0) {
            return -1 - fault;
        }
        Law old = tower.valid;
        tower.valid = spare;
        spare = old;
        return 0;
    }

    public int ringer(int ringer, int what) throws NoSuchElementException {
        if (!tower.crew.has(ringer)) {
            throw new NoSuchElementException();
        }
        switch (what) {
            case 0:
                return tower.crew.firstOf(ringer);
            case 1:
                return tower.crew.secondOf(ringer);
            case 2:
                return bell.tiredOf(ringer);
            case 3:
                return bell.holds(ringer) ? 1 : 0;
            case 4:
                return tower.volume(bell, 1 << ringer);
            default:
                throw new NoSuchElementException();
        }
    }

    public int person(int person, int what) throws NoSuchElementException {
        if (!tower.people.has(person)) {
            throw new NoSuchElementException();
        }
        switch (what) {
            case 0:
                return tower.people.firstOf(person);
            case 1:
                return tower.people.secondOf(person);
            case 2:
                return bell.doubting >> person & 1;
            default:
                throw new NoSuchElementException();
        }
    }

    public int loud() {
        return tower.volume(bell, bell.rope);
    }

    public int set(int what, int v) {
        int old = NONE;
        if (what == 0 && v >= 1 && v <= 30) {
            old = tower.weight;
            tower.weight = v;
        } else if (what == 1 && v >= 0 && v <= 9) {
            old = tower.frost;
            tower.frost = v;
        } else if (what == 2 && v >= 0 && v <= 9) {
            old = tower.most;
            tower.most = v;
        }
        return old;
    }

    public int sheet(int kind, int n, int f, int step) {
        if (kind < 0 || kind > 3 || n > MANY) {
            return NONE;
        }
        boolean missing = kind == 3;
        if (!missing && n < 0) {
            return -2;
        }
        for (int i = 0; i < MANY; i++) {
            boolean listed = !missing && i < n && tower.crew.has(i);
            bell.tire(i, listed ? entry(kind, f + i * step) : 0);
        }
        return missing ? -3 : bell.tiredTogether();
    }

    private static int entry(int kind, int v) {
        int held = kind == 0 ? (byte) v : kind == 1 ? (short) v : v;
        return Math.max(0, Math.min(TIREDEST, held));
    }

    // ---- minutes

    public int take(int ringer) {
        ahead.copy(bell);
        return remembered(grasp(ringer));
    }

    public int leave(int ringer) {
        ahead.copy(bell);
        return remembered(letGo(ringer));
    }

    public int mend(int n) {
        ahead.copy(bell);
        return remembered(splice(n));
    }

    public int minutes(int n) {
        ahead.copy(bell);
        int rung = remembered(pass(n));
        if (rung >= 0) {
            tell(bell.stops - ahead.stops, bell.doubting & ~ahead.doubting);
        }
        return rung;
    }

    public int watch() {
        int fault = Acts.faultIn(text);
        if (fault >= 0) {
            text.many = 0;
            return -1 - fault;
        }
        ahead.copy(bell);
        int done = 0;
        boolean refused = false;
        for (int p = 0; p < text.many && !refused; p++) {
            if (Acts.beginsAt(text, p)) {
                refused = act(p) < 0;
                done += refused ? 0 : 1;
            }
        }
        text.many = 0;
        if (done > 0) {
            past.push(ahead);
        }
        tell(refused ? 1 : 0, bell.stops - ahead.stops);
        return done;
    }

    private int act(int p) {
        switch (text.at(p)) {
            case 't':
                return grasp(text.number(p + 1, 1));
            case 'l':
                return letGo(text.number(p + 1, 1));
            case 'c':
                return relieve(text.number(p + 1, 1), text.number(p + 2, 1));
            case 'm':
                return splice(text.number(p + 1, 2));
            default:
                return pass(text.number(p, 3));
        }
    }

    private int remembered(int answer) {
        if (answer >= 0) {
            past.push(ahead);
        }
        return answer;
    }

    private int grasp(int ringer) {
        if (!tower.crew.has(ringer)) {
            return NONE;
        }
        if (bell.holds(ringer)) {
            return -2;
        }
        if (Integer.bitCount(bell.rope) >= AT_ROPE) {
            return -3;
        }
        bell.rope |= 1 << ringer;
        return Integer.bitCount(bell.rope);
    }

    private int letGo(int ringer) {
        if (!tower.crew.has(ringer)) {
            return NONE;
        }
        if (!bell.holds(ringer)) {
            return -2;
        }
        bell.rope &= ~(1 << ringer);
        return Integer.bitCount(bell.rope);
    }

    private int relieve(int leaves, int takes) {
        int rope = bell.rope;
        int answer = letGo(leaves);
        if (answer < 0) {
            return answer;
        }
        answer = grasp(takes);
        if (answer < 0) {
            bell.rope = rope;
        }
        return answer;
    }

    private int splice(int n) {
        if (n < 1 || n > STRONGEST_ROPE) {
            return NONE;
        }
        bell.strands = Math.min(STRONGEST_ROPE, bell.strands + n);
        return bell.strands;
    }

    private int pass(int n) {
        if (n < 0 || n > 120) {
            return NONE;
        }
        int rung = bell.rung;
        for (int i = 0; i < n; i++) {
            tower.minute(bell);
        }
        return bell.rung - rung;
    }

    public int undo() {
        return past.pop(bell);
    }

    // ---- how long

    public int lasts() {
        int stop = firstStop(tower);
        if (stop > FAR) {
            return -2;
        }
        tell(trial.rung - bell.rung, trial.paid - bell.paid);
        return stop;
    }

    private int firstStop(Tower by) {
        trial.copy(bell);
        for (int i = 1; i <= FAR; i++) {
            by.ring(trial);
            if (trial.stops > bell.stops) {
                return i;
            }
        }
        return FAR + 1;
    }

    public int hush() {
        trial.copy(bell);
        int rung = tower.rungOn(trial, FAR);
        if (rung == FAR) {
            return -2;
        }
        tell(trial.silent);
        return rung;
    }

    public int team(int n) {
        if (n < 1 || n > 120) {
            return NONE;
        }
        for (int size = 1; size <= AT_ROPE; size++) {
            int they = cheapestTeam(size, n);
            if (they != 0) {
                tell(they, tower.crew.secondsOf(they));
                return size;
            }
        }
        return -2;
    }

    private int cheapestTeam(int size, int n) {
        int best = 0;
        for (int they = 1; they <= tower.crew.all(); they++) {
            boolean cheaper = best == 0 || tower.crew.secondsOf(they) < tower.crew.secondsOf(best);
            if (Integer.bitCount(they) == size && cheaper && ringsAlone(they, n) == n) {
                best = they;
            }
        }
        return best;
    }

    /** How many of n MINUTES these ring alone from now on, ahead of the first that is not. */
    private int ringsAlone(int they, int n) {
        trial.copy(bell);
        trial.rope = they;
        return tower.rungOn(trial, n);
    }

    public int strongest(int many) {
        if (many < 1 || many > AT_ROPE) {
            return NONE;
        }
        int longest = -1;
        int best = 0;
        for (int they = 1; they <= tower.crew.all(); they++) {
            int rung = Integer.bitCount(they) == many ? ringsAlone(they, FAR) : -1;
            if (rung > longest) {
                longest = rung;
                best = they;
            }
        }
        if (longest < 0) {
            return -2;
        }
        tell(best);
        return longest;
    }

    public int silence(int n) {
        if (n < 1 || n > FAR) {
            return NONE;
        }
        trial.copy(bell);
        int longest = bell.silent;
        int since = 0;
        for (int i = 1; i <= n; i++) {
            tower.ring(trial);
            if (trial.silent > longest) {
                longest = trial.silent;
                since = i;
            }
        }
        tell(since, trial.strands);
        return longest;
    }

    public int crowd(int n) {
        if (n < 0 || n > FAR) {
            return NONE;
        }
        trial.copy(bell);
        int since = 0;
        for (int i = 1; i <= n; i++) {
            int before = trial.doubting;
            tower.minute(trial);
            if (trial.doubting != before) {
                since = i;
            }
        }
        tell(since, Integer.bitCount(trial.doubting));
        return trial.doubting;
    }

    public int swap() {
        int longest = -1;
        int out = 0;
        int in = 0;
        for (int leaves = 0; leaves < MANY; leaves++) {
            for (int takes = 0; takes < MANY; takes++) {
                boolean can = bell.holds(leaves) && tower.crew.has(takes) && !bell.holds(takes);
                int rung = can ? ringsAlone(bell.rope & ~(1 << leaves) | 1 << takes, FAR) : -1;
                if (rung > longest) {
                    longest = rung;
                    out = leaves;
                    in = takes;
                }
            }
        }
        if (longest < 0) {
            return -2;
        }
        tell(out, in);
        return longest;
    }

    public int ready(int ringer, int n) {
        if (!tower.crew.has(ringer) || n < 1 || n > 60) {
            return NONE;
        }
        ahead.copy(bell);
        ahead.rope &= ~(1 << ringer);
        for (int rest = 0; rest <= 120; rest++) {
            trial.copy(ahead);
            trial.rope = 1 << ringer;
            if (tower.rungOn(trial, n) == n) {
                tell(ahead.tiredOf(ringer));
                return rest;
            }
            tower.ring(ahead);
        }
        return -2;
    }

    // ---- rotas

    public int rota(int n, int k) {
        return bestRota(n, k, Rotas.FEWEST);
    }

    public int cheapest(int n, int k) {
        return bestRota(n, k, Rotas.LEAST_FEES);
    }

    private int bestRota(int n, int k, int aim) {
        if (n < 1 || n > Rotas.SHIFTS || k < 1 || k > Rotas.LONGEST) {
            return NONE;
        }
        int worth = rotas.search(tower, bell, n, k, aim);
        if (worth < 0) {
            return -2;
        }
        tellRota(n);
        return worth;
    }

    public int longest(int n) {
        if (n < 1 || n > 3) {
            return NONE;
        }
        for (int k = Rotas.LONGEST; k >= 1; k--) {
            if (rotas.search(tower, bell, n, k, Rotas.ANY) >= 0) {
                tellRota(n);
                return k;
            }
        }
        return -2;
    }

    private void tellRota(int n) {
        told.clear();
        for (int shift = 0; shift < n; shift++) {
            told.add(rotas.bestIn(shift));
        }
    }

    public int change(int n) {
        if (n < 0 || n > 30) {
            return NONE;
        }
        trial.copy(bell);
        for (int stay = 0; stay <= FAR; stay++) {
            // A silence that is longer than MOST has stopped IT already and can't again.
            if (trial.silent > tower.most || trial.silent + n <= tower.most) {
                return stay;
            }
            tower.ring(trial);
        }
        return -2;
    }

    // ---- doubts

    public int doubts(int v) {
        if (v < 0 || v > 9) {
            return NONE;
        }
        int hearing = tower.people.hearing(v);
        int they = tower.people.persuadedBy(bell.doubting | hearing);
        tell(Integer.bitCount(they), Integer.bitCount(hearing));
        return they;
    }

    public int frees() {
        for (int v = 0; v <= 9; v++) {
            if (tower.people.persuadedBy(bell.doubting | tower.people.hearing(v)) == tower.people.all()) {
                return v;
            }
        }
        return -2;
    }

    public int persuade() {
        int best = tower.people.all();
        for (int they = 0; they <= tower.people.all(); they++) {
            boolean fewer = Integer.bitCount(they) < Integer.bitCount(best);
            if (fewer && tower.people.persuadedBy(bell.doubting | they) == tower.people.all()) {
                best = they;
            }
        }
        tell(best);
        return Integer.bitCount(best);
    }

    public int firm() {
        int they = 0;
        for (int i = 0; i < MANY; i++) {
            int need = tower.people.secondOf(i);
            if (tower.people.has(i) && (need == 0 || need > tower.people.many - 1)) {
                they |= 1 << i;
            }
        }
        tell(Integer.bitCount(they));
        return they;
    }

    // ---- laws

    public int law() {
        int fault = spare.read(text);
        text.many = 0;
        if (fault >= 0) {
            return -10000 - fault;
        }
        guess.setAs(tower);
        guess.valid = spare;
        int other = firstStop(guess);
        int own = firstStop(tower);
        tell(other, own);
        return other - own;
    }

    public int frozen(int v) {
        if (v < 0 || v > 9) {
            return NONE;
        }
        guess.setAs(tower);
        guess.frost = v;
        int they = guess.able(bell);
        tell(Integer.bitCount(they));
        return they;
    }

    public int heaviest(int n) {
        if (n < 1 || n > 120) {
            return NONE;
        }
        guess.setAs(tower);
        for (int weight = 30; weight >= 1; weight--) {
            guess.weight = weight;
            trial.copy(bell);
            if (guess.rungOn(trial, n) == n) {
                return weight;
            }
        }
        return -2;
    }

    // ---- who rang

    public int noted(int shift, int v, int is) {
        boolean known = shift >= 0 && shift < Night.SHIFTS && v >= -999 && v <= 9999 && is >= 0 && is <= 1;
        return known ? night.note(shift, v, is) : NONE;
    }

    public int forget() {
        int were = night.notes;
        night.notes = 0;
        return were;
    }

    public int rows() {
        countRows();
        told.clear();
        if (night.total() > 0) {
            int last = -1;
            for (int shift = 0; shift < Night.SHIFTS; shift++) {
                last = night.leastBehind(shift, last);
                told.add(last);
            }
        }
        return night.total();
    }

    private void countRows() {
        trial.copy(bell);
        trial.rest();
        night.work(tower, trial);
    }

    public int rang(int shift) {
        if (shift < 0 || shift >= Night.SHIFTS) {
            return NONE;
        }
        countRows();
        int they = night.possible(shift);
        tell(Integer.bitCount(they));
        return they;
    }

    public int ask() {
        countRows();
        int best = -2;
        int most = 0;
        for (int shift = 0; shift < Night.SHIFTS; shift++) {
            int many = Integer.bitCount(night.possible(shift));
            if (many > most) {
                most = many;
                best = shift;
            }
        }
        if (best >= 0) {
            tell(most);
        }
        return best;
    }

    // ---- sickness, council and union

    public int sick(int p) {
        if (p < 0 || p > 10) {
            return NONE;
        }
        int able = Integer.bitCount(tower.able(bell));
        long all = power(10, able);
        long well = all - power(p, able);
        long common = commonDivisor(all, well);
        if (common == 0) {
            return NONE;
        }
        tell(well / common, all / common);
        return 0;
    }

    private static long power(long base, int times) {
        long product = 1;
        for (int i = 0; i < times; i++) {
            product *= base;
        }
        return product;
    }

    private static long commonDivisor(long a, long b) {
        long high = a;
        long low = b;
        for (int i = 0; i < 200 && low != 0; i++) {
            long rest = high % low;
            high = low;
            low = rest;
        }
        return high;
    }

    public int risk(int v) {
        if (v < 0 || v > 100) {
            return NONE;
        }
        int able = Integer.bitCount(tower.able(bell));
        long all = power(10, able);
        int greatest = -2;
        for (int p = 0; p <= 10 && (all - power(p, able)) * 100 >= v * all; p++) {
            greatest = p;
        }
        return greatest;
    }

    public int settle(int v, int k) {
        if (v < 0 || v > 20 || k < 1 || k > 20) {
            return NONE;
        }
        int offering = 0;
        int other = 0;
        for (int turn = k - 1; turn >= 0; turn--) {
            int coins = Math.max(0, v - turn);
            // Who answers now offers in the next turn.
            int onward = offering;
            int most = -1;
            int left = 0;
            for (int offer = 0; offer <= coins; offer++) {
                boolean taken = offer >= onward;
                int gain = taken ? coins - offer : other;
                if (gain > most) {
                    most = gain;
                    left = taken ? offer : onward;
                }
            }
            offering = most;
            other = left;
        }
        tell(other);
        return offering;
    }

    public int strike(int v) {
        if (v < 0 || v > 99) {
            return NONE;
        }
        int pairs = 0;
        told.clear();
        for (int council = 0; council <= 9; council++) {
            for (int union = 0; union <= 9; union++) {
                if (bestReply(v, council, union) && bestReply(v, union, council)) {
                    if (pairs == 0) {
                        tell(council, union);
                    }
                    pairs++;
                }
            }
        }
        return pairs;
    }

    private static boolean bestReply(int v, int own, int others) {
        for (int instead = 0; instead <= 9; instead++) {
            if (outcome(v, instead, others) > outcome(v, own, others)) {
                return false;
            }
        }
        return true;
    }

    private static int outcome(int v, int own, int others) {
        if (own > others) {
            return v - others;
        }
        return own < others ? -own : v / 2 - own;
    }

    // ---- years

    public int years(int seed, int n) {
        int many = tower.crew.many;
        if (n < 1 || n > 300 || many < 1) {
            return NONE;
        }
        int r = seed;
        trial.copy(bell);
        for (int i = 0; i < n; i++) {
            r = r * 1103515245 + 12345;
            int drawn = 1 << (r >>> 16) % many;
            boolean there = (trial.rope & drawn) != 0;
            if (there || Integer.bitCount(trial.rope) < AT_ROPE) {
                trial.rope ^= drawn;
            }
            tower.minute(trial);
        }
        tell(trial.rung - bell.rung, trial.tiredTogether(), Integer.bitCount(trial.doubting));
        return trial.stops - bell.stops;
    }

    // ---- kept

    public boolean keep(int i) {
        if (i < 0 || i >= kept.length) {
            return false;
        }
        kept[i].copy(bell);
        keptNumbers |= 1 << i;
        return true;
    }

    public boolean again(int i) {
        if (i < 0 || i >= kept.length || (keptNumbers >> i & 1) == 0) {
            return false;
        }
        bell.copy(kept[i]);
        past.clear();
        return true;
    }

    public int count(int what) {
        switch (what) {
            case 0:
                return tower.crew.many;
            case 1:
                return tower.people.many;
            case 2:
                return bell.rope;
            case 3:
                return bell.strands;
            case 4:
                return bell.now;
            case 5:
                return bell.rung;
            case 6:
                return bell.silent;
            case 7:
                return bell.stops;
            case 8:
                return bell.paid;
            default:
                return countFurther(what);
        }
    }

    private int countFurther(int what) {
        switch (what) {
            case 9:
                return bell.doubting;
            case 10:
                return tower.weight;
            case 11:
                return tower.frost;
            case 12:
                return tower.most;
            case 13:
                return night.notes;
            case 14:
                return past.many;
            case 15:
                return told.many;
            case 16:
                return text.many;
            default:
                return -100;
        }
    }

    public long row(int i) throws NoSuchElementException {
        if (i < 0 || i >= told.many) {
            throw new NoSuchElementException();
        }
        return told.at(i);
    }

    private void tell(long a) {
        told.clear();
        told.add(a);
    }

    private void tell(long a, long b) {
        told.clear();
        told.add(a);
        told.add(b);
    }

    private void tell(long a, long b, long c) {
        told.clear();
        told.add(a);
        told.add(b);
        told.add(c);
    }

    /** THE ROW. */
    private static final class Row {
        final long[] numbers = new long[6];
        int many = 0;

        void clear() {
            many = 0;
        }

        void add(long number) {
            if (many >= 0 && many < numbers.length) {
                numbers[many] = number;
                many++;
            }
        }

        long at(int i) {
            return i >= 0 && i < many && i < numbers.length ? numbers[i] : 0;
        }
    }

    /** THE TEXT. */
    private static final class Text {
        final int[] signs = new int[TEXT_SIGNS];
        int many = 0;

        void add(int sign) {
            if (many >= 0 && many < signs.length) {
                signs[many] = sign;
                many++;
            }
        }

        /** A sign, or -1 where none stands. */
        int at(int p) {
            return p >= 0 && p < many && p < signs.length ? signs[p] : -1;
        }

        boolean digitAt(int p) {
            int sign = at(p);
            return sign >= '0' && sign <= '9';
        }

        /** Of the digits from a sign on, so many at most. */
        int number(int from, int digits) {
            int value = 0;
            for (int i = 0; i < digits && digitAt(from + i); i++) {
                value = value * 10 + at(from + i) - '0';
            }
            return value;
        }
    }

    /** The ACTS of A WATCH, as signs of THE TEXT. */
    private static final class Acts {
        /** Where the first sign stands that can't stand there; -1: none. */
        static int faultIn(Text text) {
            int end = Math.min(text.many, WATCH_SIGNS);
            int digits = 0;
            int kind = ';';
            for (int p = 0; p < end; p++) {
                int sign = text.at(p);
                boolean begins = kind == ';';
                if (text.digitAt(p) && (begins || digits < most(kind))) {
                    kind = begins ? '0' : kind;
                    digits = begins ? 1 : digits + 1;
                } else if (begins && (sign == 't' || sign == 'l' || sign == 'c' || sign == 'm')) {
                    kind = sign;
                    digits = 0;
                } else if (!begins && sign == ';' && digits >= least(kind)) {
                    kind = ';';
                } else {
                    return p;
                }
            }
            if (text.many > WATCH_SIGNS) {
                return WATCH_SIGNS;
            }
            boolean whole = kind != ';' && digits >= least(kind);
            return end == 0 || whole ? -1 : end;
        }

        private static int least(int kind) {
            return kind == 'c' ? 2 : 1;
        }

        private static int most(int kind) {
            switch (kind) {
                case 't':
                case 'l':
                    return 1;
                case 'c':
                case 'm':
                    return 2;
                default:
                    return 3;
            }
        }

        static boolean beginsAt(Text text, int p) {
            return p == 0 || text.at(p - 1) == ';';
        }
    }

    /** RINGERS or TOWNSPEOPLE: of each the two digits of its LINE. */
    private static final class Roll {
        final int[] first = new int[MANY];
        final int[] second = new int[MANY];
        int many = 0;

        boolean has(int i) {
            return i >= 0 && i < many && i < MANY;
        }

        int firstOf(int i) {
            return has(i) ? first[i] : 0;
        }

        int secondOf(int i) {
            return has(i) ? second[i] : 0;
        }

        int secondsOf(int they) {
            int sum = 0;
            for (int i = 0; i < MANY; i++) {
                sum += (they >> i & 1) * secondOf(i);
            }
            return sum;
        }

        int all() {
            return (1 << many) - 1;
        }

        /** Where the first sign stands that can't stand there; -1: none. */
        int faultIn(Text text) {
            int end = Math.min(text.many, ROLL_SIGNS);
            for (int p = 0; p < end; p++) {
                if (!fits(p, text.at(p))) {
                    return p;
                }
            }
            if (text.many > ROLL_SIGNS) {
                return ROLL_SIGNS;
            }
            return end == 0 || end % 3 == 2 ? -1 : end;
        }

        private boolean fits(int p, int sign) {
            switch (p % 3) {
                case 0:
                    return sign >= '1' && sign <= '9' && many + p / 3 < MANY;
                case 1:
                    return sign >= '0' && sign <= '9';
                default:
                    return sign == ';';
            }
        }

        /** The text has no fault: how many came. */
        int admit(Text text) {
            int lines = 0;
            for (int p = 0; p < text.many && many >= 0 && many < MANY; p += 3) {
                first[many] = text.number(p, 1);
                second[many] = text.number(p + 1, 1);
                many++;
                lines++;
            }
            return lines;
        }

        /** Of TOWNSPEOPLE: those whose EAR is no longer than a silence. */
        int hearing(int silence) {
            int they = 0;
            for (int i = 0; i < MANY; i++) {
                if (has(i) && firstOf(i) <= silence) {
                    they |= 1 << i;
                }
            }
            return they;
        }

        /** Of TOWNSPEOPLE: those that doubt in the end, if these do. */
        int persuadedBy(int they) {
            int doubting = they;
            for (int round = 0; round < MANY; round++) {
                doubting |= moved(doubting);
            }
            return doubting;
        }

        /** Of TOWNSPEOPLE: those whom these, as far as they are others, make doubt. */
        int moved(int doubting) {
            int they = 0;
            for (int i = 0; i < MANY; i++) {
                int need = secondOf(i);
                if (need != 0 && Integer.bitCount(doubting & ~(1 << i)) >= need) {
                    they |= 1 << i;
                }
            }
            return they;
        }
    }

    /** A RULE, as its operations stand behind what they work on. */
    private static final class Law {
        private static final String LETTERS = "stnwfrm";
        /** Codes below it are NUMBERS. */
        private static final int LETTER = 1000;
        private static final int OPERATION = 1010;
        /** Stands for the - ahead of a thing. */
        private static final char NEGATION = '~';
        private static final int DEEPEST = 4;

        private final int[] code = new int[RULE_SIGNS];
        private int many = 0;
        private final int[] values = new int[7];
        private final int[] stack = new int[RULE_SIGNS + 1];
        private final int[] waiting = new int[RULE_SIGNS];
        private int waits = 0;
        private int depth = 0;
        /** Bits: the depths whose EXPRESSION has its < > = already. */
        private int compared = 0;
        private int digits = 0;
        private boolean behindThing = false;

        /** Where the first sign stands that can't stand there; -1: none, and the law is this text. */
        int read(Text text) {
            many = 0;
            waits = 0;
            depth = 0;
            compared = 0;
            digits = 0;
            behindThing = false;
            int end = Math.min(text.many, RULE_SIGNS);
            for (int p = 0; p < end; p++) {
                int sign = text.at(p);
                boolean can = behindThing ? goOn(sign) : begin(sign);
                if (!can) {
                    return p;
                }
            }
            if (text.many > RULE_SIGNS) {
                return RULE_SIGNS;
            }
            if (end > 0 && (!behindThing || depth > 0)) {
                return end;
            }
            release(1);
            return -1;
        }

        private boolean begin(int sign) {
            if (sign == '-') {
                hold(NEGATION);
                return true;
            }
            if (sign == '(') {
                return open();
            }
            int letter = LETTERS.indexOf((char) sign);
            boolean digit = sign >= '0' && sign <= '9';
            if (!digit && letter < 0) {
                return false;
            }
            put(digit ? sign - '0' : LETTER + letter);
            digits = digit ? 1 : 0;
            behindThing = true;
            return true;
        }

        private boolean open() {
            if (depth >= DEEPEST) {
                return false;
            }
            depth++;
            hold('(');
            return true;
        }

        private boolean goOn(int sign) {
            if (sign >= '0' && sign <= '9') {
                return lengthen(sign - '0');
            }
            digits = 0;
            switch (sign) {
                case ')':
                    return close();
                case '<':
                case '>':
                case '=':
                    return compare(sign);
                case '+':
                case '-':
                case '*':
                case '/':
                    operate(sign);
                    return true;
                default:
                    return false;
            }
        }

        private boolean lengthen(int digit) {
            if (digits < 1 || digits > 2 || many < 1 || many > code.length) {
                return false;
            }
            code[many - 1] = code[many - 1] * 10 + digit;
            digits++;
            return true;
        }

        private boolean close() {
            if (depth <= 0 || waits <= 0) {
                return false;
            }
            release(1);
            waits--;
            compared &= ~(1 << depth);
            depth--;
            return true;
        }

        private boolean compare(int sign) {
            if ((compared >> depth & 1) != 0) {
                return false;
            }
            compared |= 1 << depth;
            operate(sign);
            return true;
        }

        private void operate(int sign) {
            release(rank(sign));
            hold(sign);
            behindThing = false;
        }

        private static int rank(int sign) {
            switch (sign) {
                case '<':
                case '>':
                case '=':
                    return 1;
                case '+':
                case '-':
                    return 2;
                case '*':
                case '/':
                    return 3;
                case NEGATION:
                    return 4;
                default:
                    return 0;
            }
        }

        /** The waiting operations that bind so or more, the latest first; a ( ends them. */
        private void release(int rank) {
            while (waits > 0 && waits <= waiting.length && rank(waiting[waits - 1]) >= rank) {
                waits--;
                put(OPERATION + waiting[waits]);
            }
        }

        private void hold(int sign) {
            if (waits >= 0 && waits < waiting.length) {
                waiting[waits] = sign;
                waits++;
            }
        }

        private void put(int number) {
            if (many >= 0 && many < code.length) {
                code[many] = number;
                many++;
            }
        }

        int value(int s, int t, int n, int w, int f, int r, int m) {
            if (many == 0) {
                return s * 10 - t - w * 3 - f;
            }
            values[0] = s;
            values[1] = t;
            values[2] = n;
            values[3] = w;
            values[4] = f;
            values[5] = r;
            values[6] = m;
            int height = 0;
            for (int i = 0; i < many && i < code.length; i++) {
                int c = code[i];
                int needs = c < OPERATION ? 0 : c == OPERATION + NEGATION ? 1 : 2;
                int place = height - needs;
                if (place < 0 || place + 1 >= stack.length) {
                    return 0;
                }
                if (needs == 0) {
                    stack[place] = named(c);
                } else if (needs == 1) {
                    stack[place] = -stack[place];
                } else {
                    stack[place] = combine(c - OPERATION, stack[place], stack[place + 1]);
                }
                height = place + 1;
            }
            return stack[0];
        }

        private int named(int c) {
            int letter = c - LETTER;
            return letter >= 0 && letter < values.length ? values[letter] : c;
        }

        private static int combine(int sign, int left, int right) {
            switch (sign) {
                case '+':
                    return left + right;
                case '-':
                    return left - right;
                case '*':
                    return left * right;
                case '/':
                    return right == 0 ? 0 : left / right;
                case '<':
                    return left < right ? 1 : 0;
                case '>':
                    return left > right ? 1 : 0;
                default:
                    return left == right ? 1 : 0;
            }
        }
    }

    /** What MINUTES change, what is undone and what is kept. */
    private static final class Bell {
        private final int[] tired = new int[MANY];
        int rope = 0;
        int strands = 50;
        int now = 0;
        int rung = 0;
        int silent = 0;
        int stops = 0;
        int paid = 0;
        int doubting = 0;

        void copy(Bell from) {
            for (int i = 0; i < MANY; i++) {
                tired[i] = from.tired[i];
            }
            rope = from.rope;
            strands = from.strands;
            now = from.now;
            rung = from.rung;
            silent = from.silent;
            stops = from.stops;
            paid = from.paid;
            doubting = from.doubting;
        }

        boolean holds(int i) {
            return i >= 0 && i < MANY && (rope >> i & 1) != 0;
        }

        int tiredOf(int i) {
            return i >= 0 && i < MANY ? tired[i] : 0;
        }

        void tire(int i, int v) {
            if (i >= 0 && i < MANY) {
                tired[i] = v;
            }
        }

        int tiredTogether() {
            int sum = 0;
            for (int i = 0; i < MANY; i++) {
                sum += tired[i];
            }
            return sum;
        }

        void rest() {
            for (int i = 0; i < MANY; i++) {
                tired[i] = 0;
            }
        }

        void workAndRest() {
            for (int i = 0; i < MANY; i++) {
                boolean works = (rope >> i & 1) != 0;
                tired[i] = works ? Math.min(TIREDEST, tired[i] + 2) : Math.max(0, tired[i] - 1);
            }
        }
    }

    /** Everybody, THE RULE and what set() sets: how a MINUTE passes. */
    private static final class Tower {
        final Roll crew;
        final Roll people;
        Law valid;
        int weight = 5;
        int frost = 0;
        int most = 2;

        Tower(Roll crew, Roll people, Law valid) {
            this.crew = crew;
            this.people = people;
            this.valid = valid;
        }

        void setAs(Tower other) {
            valid = other.valid;
            weight = other.weight;
            frost = other.frost;
            most = other.most;
        }

        /** LOUD, if these were at THE ROPE. */
        int volume(Bell bell, int they) {
            if (they == 0 || bell.strands == 0) {
                return 0;
            }
            int strength = 0;
            int tired = 0;
            for (int i = 0; i < MANY; i++) {
                if ((they >> i & 1) != 0) {
                    strength += crew.firstOf(i);
                    tired += bell.tiredOf(i);
                }
            }
            int many = Integer.bitCount(they);
            return valid.value(strength, tired, many, weight, frost, bell.strands, bell.now % 60);
        }

        /** RINGERS (bits) who could ring now alone. */
        int able(Bell bell) {
            int they = 0;
            for (int i = 0; i < MANY; i++) {
                if (crew.has(i) && volume(bell, 1 << i) > 0) {
                    they |= 1 << i;
                }
            }
            return they;
        }

        /** A MINUTE but for TOWNSPEOPLE: whether it was rung. */
        boolean ring(Bell bell) {
            boolean rung = volume(bell, bell.rope) > 0;
            if (rung) {
                bell.rung++;
                bell.silent = 0;
                if (bell.rung % 10 == 0) {
                    bell.strands = Math.max(0, bell.strands - 1);
                }
            } else {
                bell.silent++;
                if (bell.silent == most + 1) {
                    bell.stops++;
                }
            }
            bell.workAndRest();
            bell.paid += crew.secondsOf(bell.rope);
            bell.now++;
            return rung;
        }

        void minute(Bell bell) {
            ring(bell);
            bell.doubting |= people.hearing(bell.silent) | people.moved(bell.doubting);
        }

        /** How many of the next MINUTES are rung ahead of the first that is not. */
        int rungOn(Bell bell, int n) {
            for (int i = 0; i < n; i++) {
                if (!ring(bell)) {
                    return i;
                }
            }
            return n;
        }
    }

    /** What undo() brings back, the latest last. */
    private static final class Past {
        private static final int ROOM = 15;
        private final Bell[] states = new Bell[ROOM];
        private int next = 0;
        int many = 0;

        Past() {
            for (int i = 0; i < states.length; i++) {
                states[i] = new Bell();
            }
        }

        void clear() {
            many = 0;
        }

        void push(Bell state) {
            if (next >= 0 && next < states.length) {
                states[next].copy(state);
                next = (next + 1) % ROOM;
                many = Math.min(ROOM, many + 1);
            }
        }

        /** How many are left; NONE: there was none. */
        int pop(Bell into) {
            int last = (next + ROOM - 1) % ROOM;
            if (many <= 0 || last < 0 || last >= states.length) {
                return NONE;
            }
            into.copy(states[last]);
            next = last;
            many--;
            return many;
        }
    }

    /** Goes through rotas from the least row on. */
    private static final class Rotas {
        static final int SHIFTS = 4;
        static final int LONGEST = 20;
        static final int ANY = 0;
        static final int FEWEST = 1;
        static final int LEAST_FEES = 2;
        private static final int STEPS = 1000000;

        /** The bell ahead of each shift, and behind the last. */
        private final Bell[] stages = new Bell[SHIFTS + 1];
        private final int[] who = new int[SHIFTS];
        private final int[] best = new int[SHIFTS];

        Rotas() {
            for (int i = 0; i < stages.length; i++) {
                stages[i] = new Bell();
            }
        }

        int bestIn(int shift) {
            return shift >= 0 && shift < SHIFTS ? best[shift] : NONE;
        }

        /** The least worth, the least row of such in best; -1: no rota goes. */
        int search(Tower tower, Bell bell, int n, int k, int aim) {
            int found = -1;
            int shift = 0;
            stages[0].copy(bell);
            who[0] = -1;
            for (int step = 0; step < STEPS && shift >= 0 && shift < SHIFTS; step++) {
                who[shift]++;
                if (who[shift] >= tower.crew.many) {
                    shift--;
                    continue;
                }
                int worth = worth(tower, shift, k, aim);
                // What is no better now gets no better by more shifts.
                if (found >= 0 && worth >= found || !goes(tower, shift, k)) {
                    continue;
                }
                if (shift + 1 < n && shift + 1 < SHIFTS) {
                    shift++;
                    who[shift] = -1;
                    continue;
                }
                found = worth;
                System.arraycopy(who, 0, best, 0, SHIFTS);
                if (aim == ANY) {
                    return found;
                }
            }
            return found;
        }

        /** Of the shifts up to the last one. */
        private int worth(Tower tower, int last, int k, int aim) {
            int they = 0;
            int fees = 0;
            for (int shift = 0; shift <= last && shift < SHIFTS; shift++) {
                they |= 1 << who[shift];
                fees += tower.crew.secondOf(who[shift]) * k;
            }
            return aim == FEWEST ? Integer.bitCount(they) : aim == LEAST_FEES ? fees : 0;
        }

        private boolean goes(Tower tower, int shift, int k) {
            if (shift < 0 || shift >= SHIFTS) {
                return false;
            }
            Bell stage = stages[shift + 1];
            stage.copy(stages[shift]);
            stage.rope = 1 << who[shift];
            int stops = stage.stops;
            for (int i = 0; i < k && stage.stops == stops; i++) {
                tower.ring(stage);
            }
            return stage.stops == stops;
        }
    }

    /** What was noted of a night, and how many rows of RINGERS fit it. */
    private static final class Night {
        static final int SHIFTS = 6;
        private static final int ROOM = 12;

        private final int[] shifts = new int[ROOM];
        private final int[] levels = new int[ROOM];
        private final int[] kinds = new int[ROOM];
        int notes = 0;
        /** For each shift and one of RINGERS in it: in how many ways the shifts till it, and from it on, go. */
        private final int[] till = new int[SHIFTS * MANY];
        private final int[] from = new int[SHIFTS * MANY];

        int note(int shift, int v, int is) {
            if (notes < 0 || notes >= ROOM) {
                return NONE;
            }
            shifts[notes] = shift;
            levels[notes] = v;
            kinds[notes] = is;
            notes++;
            return notes;
        }

        void work(Tower tower, Bell rested) {
            for (int ringer = 0; ringer < MANY; ringer++) {
                int loud = tower.volume(rested, 1 << ringer);
                for (int shift = 0; shift < SHIFTS; shift++) {
                    int can = tower.crew.has(ringer) && fits(shift, loud) ? 1 : 0;
                    till[shift * MANY + ringer] = can;
                    from[shift * MANY + ringer] = can;
                }
            }
            for (int step = 1; step < SHIFTS; step++) {
                goOn(till, step - 1, step);
                goOn(from, SHIFTS - step, SHIFTS - 1 - step);
            }
        }

        private boolean fits(int shift, int loud) {
            for (int i = 0; i < notes && i < ROOM; i++) {
                boolean more = loud >= levels[i];
                if (shifts[i] == shift && more != (kinds[i] == 1)) {
                    return false;
                }
            }
            return true;
        }

        /** None of RINGERS stands in two shifts one behind the other. */
        private static void goOn(int[] ways, int shift, int next) {
            int all = sum(ways, shift);
            for (int ringer = 0; ringer < MANY; ringer++) {
                int i = next * MANY + ringer;
                if (i >= 0 && i < ways.length) {
                    ways[i] *= all - waysOf(ways, shift, ringer);
                }
            }
        }

        private static int waysOf(int[] ways, int shift, int ringer) {
            int i = shift * MANY + ringer;
            return i >= 0 && i < ways.length ? ways[i] : 0;
        }

        private static int sum(int[] ways, int shift) {
            int sum = 0;
            for (int ringer = 0; ringer < MANY; ringer++) {
                sum += waysOf(ways, shift, ringer);
            }
            return sum;
        }

        int total() {
            return sum(from, 0);
        }

        /** The least who can be in a shift behind one; NONE: nobody. */
        int leastBehind(int shift, int last) {
            for (int ringer = 0; ringer < MANY; ringer++) {
                if (ringer != last && waysOf(from, shift, ringer) > 0) {
                    return ringer;
                }
            }
            return NONE;
        }

        int possible(int shift) {
            int they = 0;
            for (int ringer = 0; ringer < MANY; ringer++) {
                if (waysOf(till, shift, ringer) > 0 && waysOf(from, shift, ringer) > 0) {
                    they |= 1 << ringer;
                }
            }
            return they;
        }
    }
}
